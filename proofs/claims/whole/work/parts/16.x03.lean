def f_X8_booked_30 (N : Nat) (S : St) (o : Nat) (V : Vt) : Option (Int32 × Vt) := ob (f_X8_refused N S V o (-1 : Int32)) (fun r23 V25 => some (r23, V25))
def f_X8_booked (N : Nat) (S : St) (V : Vt) (o : Nat) (a1 : Int32) (a2 : Int32) (a3 : Int32) : Option (Int32 × Vt) := ob1 (f_X8_isAccount N a1) (fun r20 => if r20 = 0 then f_X8_booked_30 N S o V  else ob1 (f_X8_isAccount N a2) (fun r26 => if r26 = 0 then f_X8_booked_30 N S o V  else if a1 = a2 then f_X8_booked_30 N S o V  else ob1 (f_X8_isWithin N a3 (1 : Int32) (999 : Int32)) (fun r30 => if r30 = 0 then f_X8_booked_30 N S o V  else if (V.1 (o + 1) 13) < (10 : Int32) then obv (f_X8_putThree N S V (o + 10) (V.1 (o + 1) 13) a1 a2 a3) (fun V36 => bd (sF V36 (o + 1) 13 ((V36.1 (o + 1) 13) + (1 : Int32))) (fun V37 => ob (f_X8_granted N S V37 o (V37.1 (o + 1) 13)) (fun r38 V40 => some (r38, V40)))) else ob (f_X8_refused N S V o (-5 : Int32)) (fun r41 V43 => some (r41, V43)))))
set_option maxHeartbeats 4000000 in
set_option maxRecDepth 100000 in
theorem c_X8_booked (l : Launch) (D : va_G) (cy : Nat → ClassId) (ad : Nat → Nat) (A : Nat → Prop) (Kc : State → Prop) (C0 : Cx ad A Kc) (N : Nat) (S : St) (V : Vt) (o : Nat) (hs : shp S o t8) (a1 : Int32) (a2 : Int32) (a3 : Int32) (r : Int32) (V' : Vt) (h : f_X8_booked N S V o a1 a2 a3 = some (r, V')) : Met l yX8_booked (mw yX8_booked cX8_booked 4 (some .int)) { frames := 1, cells := 0, slots := 0, locals := 24 } (PreM D cy ad Kc S V [.ref (ad o), .int a1, .int a2, .int a3]) (QI D cy ad A r S V') 0 0 A := by
  refine ct_go C0 (own := RX8) rfl (by decide) rfl ?_
  intro p e s m below meth c ls H locs X hr hlocks hnm hl w
  have hx := X.1.1
  have hb := X.1.2.1
  have hown := X.2.1
  have hts := X.2.2.1
  have hl : lv_has ls 4 [(0, .ref (ad o)), (1, .int a1), (2, .int a2), (3, .int a3)] := hl
  obtain ⟨G, hG⟩ : ∃ G : Nat → Vt → List (Nat × Value) → List Value → Prop, G = fun pc V lv st => ∀ (H : Heap) (locs : List Loc) (ls : Array Slot), Wd D cy ad A s.heap S V H locs → lv_has ls 4 lv → W p l e { frames := 1, cells := 0, slots := 0, locals := 24 } s m ([.ref (ad o), .int a1, .int a2, .int a3] : List Value).toArray below meth c H locs 0 0 (MQ below (QI D cy ad A r S V') ([.ref (ad o), .int a1, .int a2, .int a3] : List Value).toArray s 0 0 A) (F0 m pc ls st) := ⟨_, rfl⟩
  have B30 : ∀ (V : Vt), f_X8_booked_30 N S o V  = some (r, V') → G 30 V [(0, .ref (ad o))] [] := by
    intro V  h
    rw [hG]
    intro H locs ls w hl
    rw [f_X8_booked_30] at h
    refine lv_aload_n hx hb dX8_booked_30 rfl (lv_at hl 0 rfl) ?_
    refine lv_iconst (v := (-1)) hx hb dX8_booked_31 (by decide) ?_
    obtain ⟨r23, V25, q24, h⟩ := obi h
    refine m_ci (m_rV (As := [.int (-1 : Int32)]) (rest := []) X w hl mi_X8_refused ml_X8_97 o (shn hs 0 rfl) (shk hs 0 rfl : S.2.1 o = 8) rfl (c_X8_refused l D cy ad A Kc C0 N S V o hs (-1 : Int32) r23 V25 q24) ⟨⟨rfl, rfl, Nat.le_of_ble_eq_true rfl, Nat.le_of_ble_eq_true rfl⟩, Nat.le_of_ble_eq_true rfl, Nat.le_of_ble_eq_true rfl⟩ rfl rfl (Nat.le_of_ble_eq_true rfl) dX8_booked_32) w (fun H locs w => ?_)
    obtain ⟨rfl, rfl⟩ := reti h
    exact m_ri X w hr hlocks dX8_booked_35
  rw [f_X8_booked] at h
  refine lv_iload_n hx hb dX8_booked_0 rfl (lv_at hl 1 rfl) ?_
  obtain ⟨r20, q21, h⟩ := ob1i h
  refine m_ci (m_rS (As := [.int a1]) (rest := []) X w hl mi_X8_isAccount ml_X8_264 (c_X8_isAccount l D cy ad A Kc C0 N S V a1 r20 q21) ⟨⟨rfl, rfl, Nat.le_of_ble_eq_true rfl, Nat.le_of_ble_eq_true rfl⟩, Nat.le_of_ble_eq_true rfl, Nat.le_of_ble_eq_true rfl⟩ rfl rfl (Nat.le_of_ble_eq_true rfl) dX8_booked_1) w (fun H locs w => ?_)
  refine lv_if_eq (tgt := 30) hx hb dX8_booked_4 (by decide) (fun c22 => ?_) (fun c22 => ?_)
  · replace h := ifT h c22
    have g := B30 V  h
    rw [hG] at g
    exact g H locs ls w (lv_sub hl [0] rfl)
  · replace h := ifF h c22
    refine lv_iload_n hx hb dX8_booked_7 rfl (lv_at hl 2 rfl) ?_
    obtain ⟨r26, q27, h⟩ := ob1i h
    refine m_ci (m_rS (As := [.int a2]) (rest := []) X w hl mi_X8_isAccount ml_X8_264 (c_X8_isAccount l D cy ad A Kc C0 N S V a2 r26 q27) ⟨⟨rfl, rfl, Nat.le_of_ble_eq_true rfl, Nat.le_of_ble_eq_true rfl⟩, Nat.le_of_ble_eq_true rfl, Nat.le_of_ble_eq_true rfl⟩ rfl rfl (Nat.le_of_ble_eq_true rfl) dX8_booked_8) w (fun H locs w => ?_)
    refine lv_if_eq (tgt := 30) hx hb dX8_booked_11 (by decide) (fun c28 => ?_) (fun c28 => ?_)
    · replace h := ifT h c28
      have g := B30 V  h
      rw [hG] at g
      exact g H locs ls w (lv_sub hl [0] rfl)
    · replace h := ifF h c28
      refine lv_iload_n hx hb dX8_booked_14 rfl (lv_at hl 1 rfl) ?_
      refine lv_iload_n hx hb dX8_booked_15 rfl (lv_at hl 2 rfl) ?_
      refine lv_icmp_eq (tgt := 30) hx hb dX8_booked_16 (by decide) (fun c29 => ?_) (fun c29 => ?_)
      · replace h := ifT h c29
        have g := B30 V  h
        rw [hG] at g
        exact g H locs ls w (lv_sub hl [0] rfl)
      · replace h := ifF h c29
        refine lv_iload_n hx hb dX8_booked_19 rfl (lv_at hl 3 rfl) ?_
        refine lv_iconst (v := 1) hx hb dX8_booked_20 (by decide) ?_
        refine lv_sipush (v := 999) hx hb dX8_booked_21 (by decide) ?_
        obtain ⟨r30, q31, h⟩ := ob1i h
        refine m_ci (m_rS (As := [.int a3, .int (1 : Int32), .int (999 : Int32)]) (rest := []) X w hl mi_X8_isWithin ml_X8_93 (c_X8_isWithin l D cy ad A Kc C0 N S V a3 (1 : Int32) (999 : Int32) r30 q31) ⟨⟨rfl, rfl, Nat.le_of_ble_eq_true rfl, Nat.le_of_ble_eq_true rfl⟩, Nat.le_of_ble_eq_true rfl, Nat.le_of_ble_eq_true rfl⟩ rfl rfl (Nat.le_of_ble_eq_true rfl) dX8_booked_24) w (fun H locs w => ?_)
        refine lv_if_ne (tgt := 36) hx hb dX8_booked_27 (by decide) (fun c32 => ?_) (fun c32 => ?_)
        · replace h := ifF h c32
          refine lv_aload_n hx hb dX8_booked_36 rfl (lv_at hl 0 rfl) ?_
          refine m_get X w o (shn hs 0 rfl) (shk hs 0 rfl : S.2.1 o = 8) ci8 0 (by decide) (fvR (shk hs 0 rfl : S.2.1 o = 8) rfl (shq hs 0 0 rfl rfl : S.2.2.2.1 o 0 = (o + 1) + 1)) rfl fl_X8_12 dX8_booked_37 ?_
          refine m_getN X w (o + 1) (shn hs 1 rfl) (shk hs 1 rfl : S.2.1 (o + 1) = 0) ci0 13 (by decide) (fvI (shk hs 1 rfl : S.2.1 (o + 1) = 0) rfl) rfl nf_X8_267 dX8_booked_40 ?_
          refine lv_bipush (v := 10) hx hb dX8_booked_43 (by decide) ?_
          refine lv_icmp_lt (tgt := 55) hx hb dX8_booked_45 (by decide) (fun c33 => ?_) (fun c33 => ?_)
          · replace h := ifT h c33
            refine lv_aload_n hx hb dX8_booked_55 rfl (lv_at hl 0 rfl) ?_
            refine m_get X w o (shn hs 0 rfl) (shk hs 0 rfl : S.2.1 o = 8) ci8 0 (by decide) (fvR (shk hs 0 rfl : S.2.1 o = 8) rfl (shq hs 0 0 rfl rfl : S.2.2.2.1 o 0 = (o + 1) + 1)) rfl fl_X8_12 dX8_booked_56 ?_
            refine m_getN X w (o + 1) (shn hs 1 rfl) (shk hs 1 rfl : S.2.1 (o + 1) = 0) ci0 8 (by decide) (fvR (shk hs 1 rfl : S.2.1 (o + 1) = 0) rfl (shq hs 1 8 rfl rfl : S.2.2.2.1 (o + 1) 8 = (o + 10) + 1)) rfl nf_X8_270 dX8_booked_59 ?_
            refine lv_aload_n hx hb dX8_booked_62 rfl (lv_at hl 0 rfl) ?_
            refine m_get X w o (shn hs 0 rfl) (shk hs 0 rfl : S.2.1 o = 8) ci8 0 (by decide) (fvR (shk hs 0 rfl : S.2.1 o = 8) rfl (shq hs 0 0 rfl rfl : S.2.2.2.1 o 0 = (o + 1) + 1)) rfl fl_X8_12 dX8_booked_63 ?_
            refine m_getN X w (o + 1) (shn hs 1 rfl) (shk hs 1 rfl : S.2.1 (o + 1) = 0) ci0 13 (by decide) (fvI (shk hs 1 rfl : S.2.1 (o + 1) = 0) rfl) rfl nf_X8_267 dX8_booked_66 ?_
            refine lv_iload_n hx hb dX8_booked_69 rfl (lv_at hl 1 rfl) ?_
            refine lv_iload_n hx hb dX8_booked_70 rfl (lv_at hl 2 rfl) ?_
            refine lv_iload_n hx hb dX8_booked_71 rfl (lv_at hl 3 rfl) ?_
            obtain ⟨V36, q35, h⟩ := obvi h
            refine m_cv (m_rS (As := [.ref (ad (o + 10)), .int (V.1 (o + 1) 13), .int a1, .int a2, .int a3]) (rest := []) X w hl mi_X8_putThree ml_X8_250 (c_X8_putThree l D cy ad A Kc C0 N S V (o + 10) ⟨(shn hs 10 rfl), (shk hs 10 rfl : S.2.1 (o + 10) = 11)⟩ (V.1 (o + 1) 13) a1 a2 a3 V36 q35) ⟨⟨rfl, rfl, Nat.le_of_ble_eq_true rfl, Nat.le_of_ble_eq_true rfl⟩, Nat.le_of_ble_eq_true rfl, Nat.le_of_ble_eq_true rfl⟩ rfl rfl (Nat.le_of_ble_eq_true rfl) dX8_booked_72) w (fun H locs w => ?_)
            refine lv_aload_n hx hb dX8_booked_75 rfl (lv_at hl 0 rfl) ?_
            refine m_get X w o (shn hs 0 rfl) (shk hs 0 rfl : S.2.1 o = 8) ci8 0 (by decide) (fvR (shk hs 0 rfl : S.2.1 o = 8) rfl (shq hs 0 0 rfl rfl : S.2.2.2.1 o 0 = (o + 1) + 1)) rfl fl_X8_12 dX8_booked_76 ?_
            refine lv_dup hx hb dX8_booked_79 rfl ?_
            refine m_getN X w (o + 1) (shn hs 1 rfl) (shk hs 1 rfl : S.2.1 (o + 1) = 0) ci0 13 (by decide) (fvI (shk hs 1 rfl : S.2.1 (o + 1) = 0) rfl) rfl nf_X8_267 dX8_booked_80 ?_
            refine lv_iconst (v := 1) hx hb dX8_booked_83 (by decide) ?_
            refine lv_iadd hx hb dX8_booked_84 ?_
            refine m_putN X w (o + 1) (shn hs 1 rfl) (shk hs 1 rfl : S.2.1 (o + 1) = 0) ci0 13 (by decide) rfl rfl rfl rfl rfl nf_X8_267 dX8_booked_85 (fun V37 H locs eV37 w => ?_)
            replace h := bdi h _ eV37
            refine lv_aload_n hx hb dX8_booked_88 rfl (lv_at hl 0 rfl) ?_
            refine lv_aload_n hx hb dX8_booked_89 rfl (lv_at hl 0 rfl) ?_
            refine m_get X w o (shn hs 0 rfl) (shk hs 0 rfl : S.2.1 o = 8) ci8 0 (by decide) (fvR (shk hs 0 rfl : S.2.1 o = 8) rfl (shq hs 0 0 rfl rfl : S.2.2.2.1 o 0 = (o + 1) + 1)) rfl fl_X8_12 dX8_booked_90 ?_
            refine m_getN X w (o + 1) (shn hs 1 rfl) (shk hs 1 rfl : S.2.1 (o + 1) = 0) ci0 13 (by decide) (fvI (shk hs 1 rfl : S.2.1 (o + 1) = 0) rfl) rfl nf_X8_267 dX8_booked_93 ?_
            obtain ⟨r38, V40, q39, h⟩ := obi h
            refine m_ci (m_rV (As := [.int (V37.1 (o + 1) 13)]) (rest := []) X w hl mi_X8_granted ml_X8_107 o (shn hs 0 rfl) (shk hs 0 rfl : S.2.1 o = 8) rfl (c_X8_granted l D cy ad A Kc C0 N S V37 o hs (V37.1 (o + 1) 13) r38 V40 q39) ⟨⟨rfl, rfl, Nat.le_of_ble_eq_true rfl, Nat.le_of_ble_eq_true rfl⟩, Nat.le_of_ble_eq_true rfl, Nat.le_of_ble_eq_true rfl⟩ rfl rfl (Nat.le_of_ble_eq_true rfl) dX8_booked_96) w (fun H locs w => ?_)
            obtain ⟨rfl, rfl⟩ := reti h
            exact m_ri X w hr hlocks dX8_booked_99
          · replace h := ifF h c33
            refine lv_aload_n hx hb dX8_booked_48 rfl (lv_at hl 0 rfl) ?_
            refine lv_bipush (v := (-5)) hx hb dX8_booked_49 (by decide) ?_
            obtain ⟨r41, V43, q42, h⟩ := obi h
            refine m_ci (m_rV (As := [.int (-5 : Int32)]) (rest := []) X w hl mi_X8_refused ml_X8_97 o (shn hs 0 rfl) (shk hs 0 rfl : S.2.1 o = 8) rfl (c_X8_refused l D cy ad A Kc C0 N S V o hs (-5 : Int32) r41 V43 q42) ⟨⟨rfl, rfl, Nat.le_of_ble_eq_true rfl, Nat.le_of_ble_eq_true rfl⟩, Nat.le_of_ble_eq_true rfl, Nat.le_of_ble_eq_true rfl⟩ rfl rfl (Nat.le_of_ble_eq_true rfl) dX8_booked_51) w (fun H locs w => ?_)
            obtain ⟨rfl, rfl⟩ := reti h
            exact m_ri X w hr hlocks dX8_booked_54
        · replace h := ifT h c32
          have g := B30 V  h
          rw [hG] at g
          exact g H locs ls w (lv_sub hl [0] rfl)
def f_X8_through_96 (N : Nat) (S : St) (V : Vt) (o : Nat) (K41 : Int32 → Int32 → Int32 → Int32 → Int32 → Int32 → Option Int32) (v1 : Int32) (v2 : Int32) (v3 : Int32) (v4 : Int32) (v5 : Int32) (v6 : Int32) : Option Int32 := bd (v6 + (1 : Int32)) (fun x25 => K41 v1 v2 v3 v4 v5 x25)
def f_X8_through_41 (N : Nat) (S : St) (V : Vt) (o : Nat) : Nat → Int32 → Int32 → Int32 → Int32 → Int32 → Int32 → Option Int32
  | 0, _, _, _, _, _, _ => none
  | n + 1, v1, v2, v3, v4, v5, v6 => if (32 : Int32) ≤ v6 then if v3 = 0 then some v4 else some v5 else if ((v6 >>> (v1 &&& 31)) &&& (1 : Int32)) = (1 : Int32) then if ((v6 >>> (v2 &&& 31)) &&& (1 : Int32)) = 0 then ob1 (f_X0_bookedOutOf N S V (o + 1) v6) (fun r27 => if v4 ≤ r27 then f_X8_through_96 N S V o (f_X8_through_41 N S V o n) v1 v2 v3 v4 v5 v6 else ob1 (f_X0_bookedOutOf N S V (o + 1) v6) (fun r30 => f_X8_through_96 N S V o (f_X8_through_41 N S V o n) v1 v2 v3 r30 v6 v6)) else f_X8_through_96 N S V o (f_X8_through_41 N S V o n) v1 v2 v3 v4 v5 v6 else f_X8_through_96 N S V o (f_X8_through_41 N S V o n) v1 v2 v3 v4 v5 v6
def f_X8_through (N : Nat) (S : St) (V : Vt) (o : Nat) (a1 : Int32) (a2 : Int32) (a3 : Int32) : Option Int32 := ob1 (f_X8_isAccount N a1) (fun r12 => if r12 = 0 then some (-1 : Int32) else ob1 (f_X8_isAccount N a2) (fun r15 => if r15 = 0 then some (-1 : Int32) else if a1 = a2 then some (-1 : Int32) else ob1 (f_X8_isWithin N a3 (0 : Int32) (1 : Int32)) (fun r19 => if r19 = 0 then some (-1 : Int32) else f_X8_through_41 N S V o N a1 a2 a3 (9991 : Int32) (0 : Int32) (0 : Int32))))
set_option maxHeartbeats 4000000 in
set_option maxRecDepth 100000 in
theorem c_X8_through (l : Launch) (D : va_G) (cy : Nat → ClassId) (ad : Nat → Nat) (A : Nat → Prop) (Kc : State → Prop) (C0 : Cx ad A Kc) (N : Nat) (S : St) (V : Vt) (o : Nat) (hs : shp S o t8) (a1 : Int32) (a2 : Int32) (a3 : Int32) (r : Int32) (h : f_X8_through N S V o a1 a2 a3 = some r) : Met l yX8_through (mw yX8_through cX8_through 7 (some .int)) { frames := 1, cells := 0, slots := 0, locals := 23 } (PreM D cy ad Kc S V [.ref (ad o), .int a1, .int a2, .int a3]) (QI D cy ad A r S V) 0 0 A := by
  refine ct_go C0 (own := RX8) rfl (by decide) rfl ?_
  intro p e s m below meth c ls H locs X hr hlocks hnm hl w
  have hx := X.1.1
  have hb := X.1.2.1
  have hown := X.2.1
  have hts := X.2.2.1
  have hl : lv_has ls 7 [(0, .ref (ad o)), (1, .int a1), (2, .int a2), (3, .int a3)] := hl
  obtain ⟨G, hG⟩ : ∃ G : Nat → Vt → List (Nat × Value) → List Value → Prop, G = fun pc V lv st => ∀ (H : Heap) (locs : List Loc) (ls : Array Slot), Wd D cy ad A s.heap S V H locs → lv_has ls 7 lv → W p l e { frames := 1, cells := 0, slots := 0, locals := 23 } s m ([.ref (ad o), .int a1, .int a2, .int a3] : List Value).toArray below meth c H locs 0 0 (MQ below (QI D cy ad A r S V) ([.ref (ad o), .int a1, .int a2, .int a3] : List Value).toArray s 0 0 A) (F0 m pc ls st) := ⟨_, rfl⟩
  have L41 : ∀ (n41 : Nat) (v1 : Int32) (v2 : Int32) (v3 : Int32) (v4 : Int32) (v5 : Int32) (v6 : Int32), f_X8_through_41 N S V o n41 v1 v2 v3 v4 v5 v6 = some r → G 41 V [(0, .ref (ad o)), (1, .int v1), (2, .int v2), (3, .int v3), (4, .int v4), (5, .int v5), (6, .int v6)] [] := by
    intro n41
    induction n41 with
    | zero => intro v1 v2 v3 v4 v5 v6 h; rw [f_X8_through_41] at h; cases h
    | succ n41 ih41 =>
      have B96 : ∀ (v1 : Int32) (v2 : Int32) (v3 : Int32) (v4 : Int32) (v5 : Int32) (v6 : Int32), f_X8_through_96 N S V o (f_X8_through_41 N S V o n41) v1 v2 v3 v4 v5 v6 = some r → G 96 V [(0, .ref (ad o)), (1, .int v1), (2, .int v2), (3, .int v3), (4, .int v4), (5, .int v5), (6, .int v6)] [] := by
        intro v1 v2 v3 v4 v5 v6 h
        rw [hG]
        intro H locs ls w hl
        rw [f_X8_through_96] at h
        obtain ⟨x25, ex25⟩ : ∃ y : Int32, y = v6 + (1 : Int32) := ⟨_, rfl⟩
        replace h := bdi h _ ex25
        refine lv_iinc (v := x25) (lv' := [(6, .int x25), (0, .ref (ad o)), (1, .int v1), (2, .int v2), (3, .int v3), (4, .int v4), (5, .int v5)]) hx hb dX8_through_96 hl (k := 6) rfl (by rw [ex25]; rfl) (by decide) rfl (fun ls hl => ?_)
        refine lv_goto (tgt := 41) hx hb dX8_through_99 (by decide) ?_
        have g := ih41 v1 v2 v3 v4 v5 x25 h
        rw [hG] at g
        exact g H locs ls w (lv_sub hl [1, 2, 3, 4, 5, 6, 0] rfl)
      intro v1 v2 v3 v4 v5 v6 h
      rw [hG]
      intro H locs ls w hl
      rw [f_X8_through_41] at h
      refine lv_iload hx hb dX8_through_41 (lv_at hl 6 rfl) ?_
      refine lv_bipush (v := 32) hx hb dX8_through_43 (by decide) ?_
      refine lv_icmp_ge (tgt := 102) hx hb dX8_through_45 (by decide) (fun c22 => ?_) (fun c22 => ?_)
      · replace h := ifT h c22
        refine lv_iload_n hx hb dX8_through_102 rfl (lv_at hl 3 rfl) ?_
        refine lv_if_ne (tgt := 111) hx hb dX8_through_103 (by decide) (fun c23 => ?_) (fun c23 => ?_)
        · replace h := ifF h c23
          refine lv_iload hx hb dX8_through_111 (lv_at hl 5 rfl) ?_
          obtain rfl := Option.some.inj h
          exact m_ri X w hr hlocks dX8_through_113
        · replace h := ifT h c23
          refine lv_iload hx hb dX8_through_106 (lv_at hl 4 rfl) ?_
          refine lv_goto (tgt := 113) hx hb dX8_through_108 (by decide) ?_
          obtain rfl := Option.some.inj h
          exact m_ri X w hr hlocks dX8_through_113
      · replace h := ifF h c22
        refine lv_iload hx hb dX8_through_48 (lv_at hl 6 rfl) ?_
        refine lv_iload_n hx hb dX8_through_50 rfl (lv_at hl 1 rfl) ?_
        refine lv_ishr hx hb dX8_through_51 ?_
        refine lv_iconst (v := 1) hx hb dX8_through_52 (by decide) ?_
        refine lv_iand hx hb dX8_through_53 ?_
        refine lv_iconst (v := 1) hx hb dX8_through_54 (by decide) ?_
        refine lv_icmp_ne (tgt := 96) hx hb dX8_through_55 (by decide) (fun c24 => ?_) (fun c24 => ?_)
        · replace h := ifF h c24
          have g := B96 v1 v2 v3 v4 v5 v6 h
          rw [hG] at g
          exact g H locs ls w (lv_sub hl [0, 1, 2, 3, 4, 5, 6] rfl)
        · replace h := ifT h c24
          refine lv_iload hx hb dX8_through_58 (lv_at hl 6 rfl) ?_
          refine lv_iload_n hx hb dX8_through_60 rfl (lv_at hl 2 rfl) ?_
          refine lv_ishr hx hb dX8_through_61 ?_
          refine lv_iconst (v := 1) hx hb dX8_through_62 (by decide) ?_
          refine lv_iand hx hb dX8_through_63 ?_
          refine lv_if_ne (tgt := 96) hx hb dX8_through_64 (by decide) (fun c26 => ?_) (fun c26 => ?_)
          · replace h := ifF h c26
            have g := B96 v1 v2 v3 v4 v5 v6 h
            rw [hG] at g
            exact g H locs ls w (lv_sub hl [0, 1, 2, 3, 4, 5, 6] rfl)
          · replace h := ifT h c26
            refine lv_aload_n hx hb dX8_through_67 rfl (lv_at hl 0 rfl) ?_
            refine m_get X w o (shn hs 0 rfl) (shk hs 0 rfl : S.2.1 o = 8) ci8 0 (by decide) (fvR (shk hs 0 rfl : S.2.1 o = 8) rfl (shq hs 0 0 rfl rfl : S.2.2.2.1 o 0 = (o + 1) + 1)) rfl fl_X8_12 dX8_through_68 ?_
            refine lv_iload hx hb dX8_through_71 (lv_at hl 6 rfl) ?_
            obtain ⟨r27, q28, h⟩ := ob1i h
            refine m_ci (m_rV (As := [.int v6]) (rest := []) X w hl mi_X0_bookedOutOf ml_X8_273 (o + 1) (shn hs 1 rfl) (shk hs 1 rfl : S.2.1 (o + 1) = 0) rfl (c_X0_bookedOutOf l D cy ad A Kc C0 N S V (o + 1) (sb_8_1 hs) v6 r27 q28) ⟨⟨rfl, rfl, Nat.le_of_ble_eq_true rfl, Nat.le_of_ble_eq_true rfl⟩, Nat.le_of_ble_eq_true rfl, Nat.le_of_ble_eq_true rfl⟩ rfl rfl (Nat.le_of_ble_eq_true rfl) dX8_through_73) w (fun H locs w => ?_)
            refine lv_iload hx hb dX8_through_76 (lv_at hl 4 rfl) ?_
            refine lv_icmp_ge (tgt := 96) hx hb dX8_through_78 (by decide) (fun c29 => ?_) (fun c29 => ?_)
            · replace h := ifT h c29
              have g := B96 v1 v2 v3 v4 v5 v6 h
              rw [hG] at g
              exact g H locs ls w (lv_sub hl [0, 1, 2, 3, 4, 5, 6] rfl)
            · replace h := ifF h c29
              refine lv_aload_n hx hb dX8_through_81 rfl (lv_at hl 0 rfl) ?_
              refine m_get X w o (shn hs 0 rfl) (shk hs 0 rfl : S.2.1 o = 8) ci8 0 (by decide) (fvR (shk hs 0 rfl : S.2.1 o = 8) rfl (shq hs 0 0 rfl rfl : S.2.2.2.1 o 0 = (o + 1) + 1)) rfl fl_X8_12 dX8_through_82 ?_
              refine lv_iload hx hb dX8_through_85 (lv_at hl 6 rfl) ?_
              obtain ⟨r30, q31, h⟩ := ob1i h
              refine m_ci (m_rV (As := [.int v6]) (rest := []) X w hl mi_X0_bookedOutOf ml_X8_273 (o + 1) (shn hs 1 rfl) (shk hs 1 rfl : S.2.1 (o + 1) = 0) rfl (c_X0_bookedOutOf l D cy ad A Kc C0 N S V (o + 1) (sb_8_1 hs) v6 r30 q31) ⟨⟨rfl, rfl, Nat.le_of_ble_eq_true rfl, Nat.le_of_ble_eq_true rfl⟩, Nat.le_of_ble_eq_true rfl, Nat.le_of_ble_eq_true rfl⟩ rfl rfl (Nat.le_of_ble_eq_true rfl) dX8_through_87) w (fun H locs w => ?_)
              refine lv_istore (lv' := [(4, .int r30), (0, .ref (ad o)), (1, .int v1), (2, .int v2), (3, .int v3), (5, .int v5), (6, .int v6)]) hx hb dX8_through_90 hl (by decide) rfl (fun ls hl => ?_)
              refine lv_iload hx hb dX8_through_92 (lv_at hl 6 rfl) ?_
              refine lv_istore (lv' := [(5, .int v6), (4, .int r30), (0, .ref (ad o)), (1, .int v1), (2, .int v2), (3, .int v3), (6, .int v6)]) hx hb dX8_through_94 hl (by decide) rfl (fun ls hl => ?_)
              have g := B96 v1 v2 v3 r30 v6 v6 h
              rw [hG] at g
              exact g H locs ls w (lv_sub hl [2, 3, 4, 5, 1, 0, 6] rfl)
  rw [f_X8_through] at h
  refine lv_iload_n hx hb dX8_through_0 rfl (lv_at hl 1 rfl) ?_
  obtain ⟨r12, q13, h⟩ := ob1i h
  refine m_ci (m_rS (As := [.int a1]) (rest := []) X w hl mi_X8_isAccount ml_X8_264 (c_X8_isAccount l D cy ad A Kc C0 N S V a1 r12 q13) ⟨⟨rfl, rfl, Nat.le_of_ble_eq_true rfl, Nat.le_of_ble_eq_true rfl⟩, Nat.le_of_ble_eq_true rfl, Nat.le_of_ble_eq_true rfl⟩ rfl rfl (Nat.le_of_ble_eq_true rfl) dX8_through_1) w (fun H locs w => ?_)
  refine lv_if_eq (tgt := 28) hx hb dX8_through_4 (by decide) (fun c14 => ?_) (fun c14 => ?_)
  · replace h := ifT h c14
    refine lv_iconst (v := (-1)) hx hb dX8_through_28 (by decide) ?_
    obtain rfl := Option.some.inj h
    exact m_ri X w hr hlocks dX8_through_29
  · replace h := ifF h c14
    refine lv_iload_n hx hb dX8_through_7 rfl (lv_at hl 2 rfl) ?_
    obtain ⟨r15, q16, h⟩ := ob1i h
    refine m_ci (m_rS (As := [.int a2]) (rest := []) X w hl mi_X8_isAccount ml_X8_264 (c_X8_isAccount l D cy ad A Kc C0 N S V a2 r15 q16) ⟨⟨rfl, rfl, Nat.le_of_ble_eq_true rfl, Nat.le_of_ble_eq_true rfl⟩, Nat.le_of_ble_eq_true rfl, Nat.le_of_ble_eq_true rfl⟩ rfl rfl (Nat.le_of_ble_eq_true rfl) dX8_through_8) w (fun H locs w => ?_)
    refine lv_if_eq (tgt := 28) hx hb dX8_through_11 (by decide) (fun c17 => ?_) (fun c17 => ?_)
    · replace h := ifT h c17
      refine lv_iconst (v := (-1)) hx hb dX8_through_28 (by decide) ?_
      obtain rfl := Option.some.inj h
      exact m_ri X w hr hlocks dX8_through_29
    · replace h := ifF h c17
      refine lv_iload_n hx hb dX8_through_14 rfl (lv_at hl 1 rfl) ?_
      refine lv_iload_n hx hb dX8_through_15 rfl (lv_at hl 2 rfl) ?_
      refine lv_icmp_eq (tgt := 28) hx hb dX8_through_16 (by decide) (fun c18 => ?_) (fun c18 => ?_)
      · replace h := ifT h c18
        refine lv_iconst (v := (-1)) hx hb dX8_through_28 (by decide) ?_
        obtain rfl := Option.some.inj h
        exact m_ri X w hr hlocks dX8_through_29
      · replace h := ifF h c18
        refine lv_iload_n hx hb dX8_through_19 rfl (lv_at hl 3 rfl) ?_
        refine lv_iconst (v := 0) hx hb dX8_through_20 (by decide) ?_
        refine lv_iconst (v := 1) hx hb dX8_through_21 (by decide) ?_
        obtain ⟨r19, q20, h⟩ := ob1i h
        refine m_ci (m_rS (As := [.int a3, .int (0 : Int32), .int (1 : Int32)]) (rest := []) X w hl mi_X8_isWithin ml_X8_93 (c_X8_isWithin l D cy ad A Kc C0 N S V a3 (0 : Int32) (1 : Int32) r19 q20) ⟨⟨rfl, rfl, Nat.le_of_ble_eq_true rfl, Nat.le_of_ble_eq_true rfl⟩, Nat.le_of_ble_eq_true rfl, Nat.le_of_ble_eq_true rfl⟩ rfl rfl (Nat.le_of_ble_eq_true rfl) dX8_through_22) w (fun H locs w => ?_)
        refine lv_if_ne (tgt := 30) hx hb dX8_through_25 (by decide) (fun c21 => ?_) (fun c21 => ?_)
        · replace h := ifF h c21
          refine lv_sipush (v := 9991) hx hb dX8_through_30 (by decide) ?_
          refine lv_istore (lv' := [(4, .int (9991 : Int32)), (0, .ref (ad o)), (1, .int a1), (2, .int a2), (3, .int a3)]) hx hb dX8_through_33 hl (by decide) rfl (fun ls hl => ?_)
          refine lv_iconst (v := 0) hx hb dX8_through_35 (by decide) ?_
          refine lv_istore (lv' := [(5, .int (0 : Int32)), (4, .int (9991 : Int32)), (0, .ref (ad o)), (1, .int a1), (2, .int a2), (3, .int a3)]) hx hb dX8_through_36 hl (by decide) rfl (fun ls hl => ?_)
          refine lv_iconst (v := 0) hx hb dX8_through_38 (by decide) ?_
          refine lv_istore (lv' := [(6, .int (0 : Int32)), (5, .int (0 : Int32)), (4, .int (9991 : Int32)), (0, .ref (ad o)), (1, .int a1), (2, .int a2), (3, .int a3)]) hx hb dX8_through_39 hl (by decide) rfl (fun ls hl => ?_)
          have g := L41 N a1 a2 a3 (9991 : Int32) (0 : Int32) (0 : Int32) h
          rw [hG] at g
          exact g H locs ls w (lv_sub hl [3, 4, 5, 6, 2, 1, 0] rfl)
        · replace h := ifT h c21
          refine lv_iconst (v := (-1)) hx hb dX8_through_28 (by decide) ?_
          obtain rfl := Option.some.inj h
          exact m_ri X w hr hlocks dX8_through_29
def f_X8_few_142 (N : Nat) (S : St) (o : Nat) : Nat → Vt → Int32 → Int64 → Int32 → Option (Int64 × Vt)
  | 0, _, _, _, _ => none
  | n + 1, V, v1, v4, v6 => if v1 ≤ v6 then some (v4, V) else ck v6 20 (bd (v4 + (V.2.2.1 (o + 62) v6.toNatClampNeg)) (fun x39 => bd (v6 + (1 : Int32)) (fun x40 => (f_X8_few_142 N S o n) V v1 x39 x40)))
def f_X8_few_95 (N : Nat) (S : St) (o : Nat) (K65 : Vt → Int32 → Int32 → Int32 → Int32 → Int32 → Option (Int64 × Vt)) (V : Vt) (v1 : Int32) (v2 : Int32) (v3 : Int32) (v4 : Int32) (v5 : Int32) (s0 : Int64) : Option (Int64 × Vt) := ck v5 20 (ck v5 20 (bd (sJ V (o + 62) v5.toNatClampNeg ((((V.2.2.1 (o + 62) v5.toNatClampNeg) * (((10 : Int32) - v3).toInt64)) / (10 : Int64)) + s0)) (fun V47 => bd (v5 + (-1 : Int32)) (fun x48 => K65 V47 v1 v2 v3 v4 x48))))
def f_X8_few_65 (N : Nat) (S : St) (o : Nat) (K54 : Vt → Int32 → Int32 → Int32 → Int32 → Option (Int64 × Vt)) : Nat → Vt → Int32 → Int32 → Int32 → Int32 → Int32 → Option (Int64 × Vt)
  | 0, _, _, _, _, _, _ => none
  | n + 1, V, v1, v2, v3, v4, v5 => if v5 < 0 then bd (v4 + (1 : Int32)) (fun x43 => K54 V v1 v2 v3 x43) else if v5 ≤ 0 then f_X8_few_95 N S o (f_X8_few_65 N S o K54 n) V v1 v2 v3 v4 v5 (0 : Int64) else ck (v5 - (1 : Int32)) 20 (f_X8_few_95 N S o (f_X8_few_65 N S o K54 n) V v1 v2 v3 v4 v5 (((V.2.2.1 (o + 62) (v5 - (1 : Int32)).toNatClampNeg) * (v3.toInt64)) / (10 : Int64)))
def f_X8_few_54 (N : Nat) (S : St) (o : Nat) : Nat → Vt → Int32 → Int32 → Int32 → Int32 → Option (Int64 × Vt)
  | 0, _, _, _, _, _ => none
  | n + 1, V, v1, v2, v3, v4 => if v2 ≤ v4 then f_X8_few_142 N S o N V v1 (0 : Int64) (0 : Int32) else bd (v1 - (1 : Int32)) (fun x41 => f_X8_few_65 N S o (f_X8_few_54 N S o n) N V v1 v2 v3 v4 x41)
def f_X8_few (N : Nat) (S : St) (V : Vt) (o : Nat) (a1 : Int32) (a2 : Int32) : Option (Int64 × Vt) := ob1 (f_X8_isWithin N a1 (1 : Int32) (20 : Int32)) (fun r23 => if r23 = 0 then some ((-1 : Int64), V) else ob1 (f_X8_isWithin N a2 (0 : Int32) (99 : Int32)) (fun r26 => if r26 = 0 then some ((-1 : Int64), V) else ck (1 : Int32) 3 (bd (V.2.1 (o + 7) (1 : Int32).toNatClampNeg) (fun x30 => obv (f_J7_fill_d0a16 N S V (o + 62) (0 : Int64)) (fun V33 => ck (0 : Int32) 20 (bd (sJ V33 (o + 62) (0 : Int32).toNatClampNeg (1000000000000 : Int64)) (fun V35 => f_X8_few_54 N S o N V35 a1 a2 x30 (0 : Int32))))))))
set_option maxHeartbeats 4000000 in
set_option maxRecDepth 100000 in
theorem c_X8_few (l : Launch) (D : va_G) (cy : Nat → ClassId) (ad : Nat → Nat) (A : Nat → Prop) (Kc : State → Prop) (C0 : Cx ad A Kc) (N : Nat) (S : St) (V : Vt) (o : Nat) (hs : shp S o t8) (a1 : Int32) (a2 : Int32) (r : Int64) (V' : Vt) (h : f_X8_few N S V o a1 a2 = some (r, V')) : Met l yX8_few (mw yX8_few cX8_few 8 (some .long)) { frames := 1, cells := 0, slots := 0, locals := 24 } (PreM D cy ad Kc S V [.ref (ad o), .int a1, .int a2]) (QL D cy ad A r S V') 0 0 A := by
  refine ct_go C0 (own := RX8) rfl (by decide) rfl ?_
  intro p e s m below meth c ls H locs X hr hlocks hnm hl w
  have hx := X.1.1
  have hb := X.1.2.1
  have hown := X.2.1
  have hts := X.2.2.1
  have hl : lv_has ls 8 [(0, .ref (ad o)), (1, .int a1), (2, .int a2)] := hl
  obtain ⟨G, hG⟩ : ∃ G : Nat → Vt → List (Nat × Value) → List Value → Prop, G = fun pc V lv st => ∀ (H : Heap) (locs : List Loc) (ls : Array Slot), Wd D cy ad A s.heap S V H locs → lv_has ls 8 lv → W p l e { frames := 1, cells := 0, slots := 0, locals := 24 } s m ([.ref (ad o), .int a1, .int a2] : List Value).toArray below meth c H locs 0 0 (MQ below (QL D cy ad A r S V') ([.ref (ad o), .int a1, .int a2] : List Value).toArray s 0 0 A) (F0 m pc ls st) := ⟨_, rfl⟩
  have L142 : ∀ (n142 : Nat) (V : Vt) (v1 : Int32) (v4 : Int64) (v6 : Int32), f_X8_few_142 N S o n142 V v1 v4 v6 = some (r, V') → G 142 V [(0, .ref (ad o)), (1, .int v1), (4, .long v4), (6, .int v6)] [] := by
    intro n142
    induction n142 with
    | zero => intro V v1 v4 v6 h; rw [f_X8_few_142] at h; cases h
    | succ n142 ih142 =>
      intro V v1 v4 v6 h
      rw [hG]
      intro H locs ls w hl
      rw [f_X8_few_142] at h
      refine lv_iload hx hb dX8_few_142 (lv_at hl 3 rfl) ?_
      refine lv_iload_n hx hb dX8_few_144 rfl (lv_at hl 1 rfl) ?_
      refine lv_icmp_ge (tgt := 166) hx hb dX8_few_145 (by decide) (fun c37 => ?_) (fun c37 => ?_)
      · replace h := ifT h c37
        refine lv_lload hx hb dX8_few_166 (lv_at hl 2 rfl) ?_
        obtain ⟨rfl, rfl⟩ := reti h
        exact m_rl X w hr hlocks dX8_few_168
      · replace h := ifF h c37
        refine lv_lload hx hb dX8_few_148 (lv_at hl 2 rfl) ?_
        refine lv_aload_n hx hb dX8_few_150 rfl (lv_at hl 0 rfl) ?_
        refine m_get X w o (shn hs 0 rfl) (shk hs 0 rfl : S.2.1 o = 8) ci8 13 (by decide) (fvR (shk hs 0 rfl : S.2.1 o = 8) rfl (shq hs 0 13 rfl rfl : S.2.2.2.1 o 13 = (o + 62) + 1)) rfl fl_X8_78 dX8_few_151 ?_
        refine lv_iload hx hb dX8_few_154 (lv_at hl 3 rfl) ?_
        obtain ⟨g38, h⟩ := cki h
        refine m_lald X w (o + 62) (shn hs 62 rfl) (shk hs 62 rfl : S.2.1 (o + 62) = 12) (shz hs 62 rfl : S.2.2.1 (o + 62) = 20) g38 dX8_few_156 ?_
        refine lv_ladd hx hb dX8_few_157 ?_
        refine lv_topl (fun x39 ex39 => ?_)
        replace h := bdi h _ ex39
        refine lv_lstore (lv' := [(4, .long x39), (0, .ref (ad o)), (1, .int v1), (6, .int v6)]) hx hb dX8_few_158 hl (by decide) rfl (fun ls hl => ?_)
        obtain ⟨x40, ex40⟩ : ∃ y : Int32, y = v6 + (1 : Int32) := ⟨_, rfl⟩
        replace h := bdi h _ ex40
        refine lv_iinc (v := x40) (lv' := [(6, .int x40), (4, .long x39), (0, .ref (ad o)), (1, .int v1)]) hx hb dX8_few_160 hl (k := 3) rfl (by rw [ex40]; rfl) (by decide) rfl (fun ls hl => ?_)
        refine lv_goto (tgt := 142) hx hb dX8_few_163 (by decide) ?_
        have g := ih142 V v1 x39 x40 h
        rw [hG] at g
        exact g H locs ls w (lv_sub hl [2, 3, 1, 0] rfl)
  have L54 : ∀ (n54 : Nat) (V : Vt) (v1 : Int32) (v2 : Int32) (v3 : Int32) (v4 : Int32), f_X8_few_54 N S o n54 V v1 v2 v3 v4 = some (r, V') → G 54 V [(0, .ref (ad o)), (1, .int v1), (2, .int v2), (3, .int v3), (4, .int v4)] [] := by
    intro n54
    induction n54 with
    | zero => intro V v1 v2 v3 v4 h; rw [f_X8_few_54] at h; cases h
    | succ n54 ih54 =>
      have L65 : ∀ (n65 : Nat) (V : Vt) (v1 : Int32) (v2 : Int32) (v3 : Int32) (v4 : Int32) (v5 : Int32), f_X8_few_65 N S o (f_X8_few_54 N S o n54) n65 V v1 v2 v3 v4 v5 = some (r, V') → G 65 V [(0, .ref (ad o)), (1, .int v1), (2, .int v2), (3, .int v3), (4, .int v4), (5, .int v5)] [] := by
        intro n65
        induction n65 with
        | zero => intro V v1 v2 v3 v4 v5 h; rw [f_X8_few_65] at h; cases h
        | succ n65 ih65 =>
          have B95 : ∀ (V : Vt) (v1 : Int32) (v2 : Int32) (v3 : Int32) (v4 : Int32) (v5 : Int32) (s0 : Int64), f_X8_few_95 N S o (f_X8_few_65 N S o (f_X8_few_54 N S o n54) n65) V v1 v2 v3 v4 v5 s0 = some (r, V') → G 95 V [(0, .ref (ad o)), (1, .int v1), (2, .int v2), (3, .int v3), (4, .int v4), (5, .int v5)] [.long s0] := by
            intro V v1 v2 v3 v4 v5 s0 h
            rw [hG]
            intro H locs ls w hl
            rw [f_X8_few_95] at h
            refine lv_lstore (lv' := [(6, .long s0), (0, .ref (ad o)), (1, .int v1), (2, .int v2), (3, .int v3), (4, .int v4), (5, .int v5)]) hx hb dX8_few_95 hl (by decide) rfl (fun ls hl => ?_)
            refine lv_aload_n hx hb dX8_few_97 rfl (lv_at hl 1 rfl) ?_
            refine m_get X w o (shn hs 0 rfl) (shk hs 0 rfl : S.2.1 o = 8) ci8 13 (by decide) (fvR (shk hs 0 rfl : S.2.1 o = 8) rfl (shq hs 0 13 rfl rfl : S.2.2.2.1 o 13 = (o + 62) + 1)) rfl fl_X8_78 dX8_few_98 ?_
            refine lv_iload hx hb dX8_few_101 (lv_at hl 6 rfl) ?_
            refine lv_aload_n hx hb dX8_few_103 rfl (lv_at hl 1 rfl) ?_
            refine m_get X w o (shn hs 0 rfl) (shk hs 0 rfl : S.2.1 o = 8) ci8 13 (by decide) (fvR (shk hs 0 rfl : S.2.1 o = 8) rfl (shq hs 0 13 rfl rfl : S.2.2.2.1 o 13 = (o + 62) + 1)) rfl fl_X8_78 dX8_few_104 ?_
            refine lv_iload hx hb dX8_few_107 (lv_at hl 6 rfl) ?_
            obtain ⟨g45, h⟩ := cki h
            refine m_lald X w (o + 62) (shn hs 62 rfl) (shk hs 62 rfl : S.2.1 (o + 62) = 12) (shz hs 62 rfl : S.2.2.1 (o + 62) = 20) g45 dX8_few_109 ?_
            refine lv_bipush (v := 10) hx hb dX8_few_110 (by decide) ?_
            refine lv_iload_n hx hb dX8_few_112 rfl (lv_at hl 4 rfl) ?_
            refine lv_isub hx hb dX8_few_113 ?_
            refine lv_i2l hx hb dX8_few_114 rfl ?_
            refine lv_lmul hx hb dX8_few_115 ?_
            refine lv_ldc2 (v := 10) hx hb hown (hts _ kl_X8_289) dX8_few_116 ?_
            refine lv_ldiv hx hb dX8_few_119 (by decide) ?_
            refine lv_lload hx hb dX8_few_120 (lv_at hl 0 rfl) ?_
            refine lv_ladd hx hb dX8_few_122 ?_
            obtain ⟨g46, h⟩ := cki h
            refine m_last X w (o + 62) (shn hs 62 rfl) (shk hs 62 rfl : S.2.1 (o + 62) = 12) (shz hs 62 rfl : S.2.2.1 (o + 62) = 20) g46 dX8_few_123 (fun V47 H locs eV47 w => ?_)
            replace h := bdi h _ eV47
            obtain ⟨x48, ex48⟩ : ∃ y : Int32, y = v5 + (-1 : Int32) := ⟨_, rfl⟩
            replace h := bdi h _ ex48
            refine lv_iinc (v := x48) (lv' := [(5, .int x48), (6, .long s0), (0, .ref (ad o)), (1, .int v1), (2, .int v2), (3, .int v3), (4, .int v4)]) hx hb dX8_few_124 hl (k := 6) rfl (by rw [ex48]; rfl) (by decide) rfl (fun ls hl => ?_)
            refine lv_goto (tgt := 65) hx hb dX8_few_127 (by decide) ?_
            have g := ih65 V47 v1 v2 v3 v4 x48 h
            rw [hG] at g
            exact g H locs ls w (lv_sub hl [2, 3, 4, 5, 6, 0] rfl)
          intro V v1 v2 v3 v4 v5 h
          rw [hG]
          intro H locs ls w hl
          rw [f_X8_few_65] at h
          refine lv_iload hx hb dX8_few_65 (lv_at hl 5 rfl) ?_
          refine lv_if_lt (tgt := 130) hx hb dX8_few_67 (by decide) (fun c42 => ?_) (fun c42 => ?_)
          · replace h := ifT h c42
            obtain ⟨x43, ex43⟩ : ∃ y : Int32, y = v4 + (1 : Int32) := ⟨_, rfl⟩
            replace h := bdi h _ ex43
            refine lv_iinc (v := x43) (lv' := [(4, .int x43), (0, .ref (ad o)), (1, .int v1), (2, .int v2), (3, .int v3), (5, .int v5)]) hx hb dX8_few_130 hl (k := 4) rfl (by rw [ex43]; rfl) (by decide) rfl (fun ls hl => ?_)
            refine lv_goto (tgt := 54) hx hb dX8_few_133 (by decide) ?_
            have g := ih54 V v1 v2 v3 x43 h
            rw [hG] at g
            exact g H locs ls w (lv_sub hl [1, 2, 3, 4, 0] rfl)
          · replace h := ifF h c42
            refine lv_iload hx hb dX8_few_70 (lv_at hl 5 rfl) ?_
            refine lv_if_le (tgt := 94) hx hb dX8_few_72 (by decide) (fun c44 => ?_) (fun c44 => ?_)
            · replace h := ifT h c44
              refine lv_lconst (v := 0) hx hb dX8_few_94 (by decide) ?_
              have g := B95 V v1 v2 v3 v4 v5 (0 : Int64) h
              rw [hG] at g
              exact g H locs ls w (lv_sub hl [0, 1, 2, 3, 4, 5] rfl)
            · replace h := ifF h c44
              refine lv_aload_n hx hb dX8_few_75 rfl (lv_at hl 0 rfl) ?_
              refine m_get X w o (shn hs 0 rfl) (shk hs 0 rfl : S.2.1 o = 8) ci8 13 (by decide) (fvR (shk hs 0 rfl : S.2.1 o = 8) rfl (shq hs 0 13 rfl rfl : S.2.2.2.1 o 13 = (o + 62) + 1)) rfl fl_X8_78 dX8_few_76 ?_
              refine lv_iload hx hb dX8_few_79 (lv_at hl 5 rfl) ?_
              refine lv_iconst (v := 1) hx hb dX8_few_81 (by decide) ?_
              refine lv_isub hx hb dX8_few_82 ?_
              obtain ⟨g49, h⟩ := cki h
              refine m_lald X w (o + 62) (shn hs 62 rfl) (shk hs 62 rfl : S.2.1 (o + 62) = 12) (shz hs 62 rfl : S.2.2.1 (o + 62) = 20) g49 dX8_few_83 ?_
              refine lv_iload_n hx hb dX8_few_84 rfl (lv_at hl 3 rfl) ?_
              refine lv_i2l hx hb dX8_few_85 rfl ?_
              refine lv_lmul hx hb dX8_few_86 ?_
              refine lv_ldc2 (v := 10) hx hb hown (hts _ kl_X8_289) dX8_few_87 ?_
              refine lv_ldiv hx hb dX8_few_90 (by decide) ?_
              refine lv_goto (tgt := 95) hx hb dX8_few_91 (by decide) ?_
              have g := B95 V v1 v2 v3 v4 v5 (((V.2.2.1 (o + 62) (v5 - (1 : Int32)).toNatClampNeg) * (v3.toInt64)) / (10 : Int64)) h
              rw [hG] at g
              exact g H locs ls w (lv_sub hl [0, 1, 2, 3, 4, 5] rfl)
      intro V v1 v2 v3 v4 h
      rw [hG]
      intro H locs ls w hl
      rw [f_X8_few_54] at h
      refine lv_iload hx hb dX8_few_54 (lv_at hl 4 rfl) ?_
      refine lv_iload_n hx hb dX8_few_56 rfl (lv_at hl 2 rfl) ?_
      refine lv_icmp_ge (tgt := 136) hx hb dX8_few_57 (by decide) (fun c36 => ?_) (fun c36 => ?_)
      · replace h := ifT h c36
        refine lv_lconst (v := 0) hx hb dX8_few_136 (by decide) ?_
        refine lv_lstore (lv' := [(4, .long (0 : Int64)), (0, .ref (ad o)), (1, .int v1), (2, .int v2), (3, .int v3)]) hx hb dX8_few_137 hl (by decide) rfl (fun ls hl => ?_)
        refine lv_iconst (v := 0) hx hb dX8_few_139 (by decide) ?_
        refine lv_istore (lv' := [(6, .int (0 : Int32)), (4, .long (0 : Int64)), (0, .ref (ad o)), (1, .int v1), (2, .int v2), (3, .int v3)]) hx hb dX8_few_140 hl (by decide) rfl (fun ls hl => ?_)
        have g := L142 N V v1 (0 : Int64) (0 : Int32) h
        rw [hG] at g
        exact g H locs ls w (lv_sub hl [2, 3, 1, 0] rfl)
      · replace h := ifF h c36
        refine lv_iload_n hx hb dX8_few_60 rfl (lv_at hl 1 rfl) ?_
        refine lv_iconst (v := 1) hx hb dX8_few_61 (by decide) ?_
        refine lv_isub hx hb dX8_few_62 ?_
        refine lv_topi (fun x41 ex41 => ?_)
        replace h := bdi h _ ex41
        refine lv_istore (lv' := [(5, .int x41), (0, .ref (ad o)), (1, .int v1), (2, .int v2), (3, .int v3), (4, .int v4)]) hx hb dX8_few_63 hl (by decide) rfl (fun ls hl => ?_)
        have g := L65 N V v1 v2 v3 v4 x41 h
        rw [hG] at g
        exact g H locs ls w (lv_sub hl [1, 2, 3, 4, 5, 0] rfl)
  rw [f_X8_few] at h
  refine lv_iload_n hx hb dX8_few_0 rfl (lv_at hl 1 rfl) ?_
  refine lv_iconst (v := 1) hx hb dX8_few_1 (by decide) ?_
  refine lv_bipush (v := 20) hx hb dX8_few_2 (by decide) ?_
  obtain ⟨r23, q24, h⟩ := ob1i h
  refine m_ci (m_rS (As := [.int a1, .int (1 : Int32), .int (20 : Int32)]) (rest := []) X w hl mi_X8_isWithin ml_X8_93 (c_X8_isWithin l D cy ad A Kc C0 N S V a1 (1 : Int32) (20 : Int32) r23 q24) ⟨⟨rfl, rfl, Nat.le_of_ble_eq_true rfl, Nat.le_of_ble_eq_true rfl⟩, Nat.le_of_ble_eq_true rfl, Nat.le_of_ble_eq_true rfl⟩ rfl rfl (Nat.le_of_ble_eq_true rfl) dX8_few_4) w (fun H locs w => ?_)
  refine lv_if_eq (tgt := 20) hx hb dX8_few_7 (by decide) (fun c25 => ?_) (fun c25 => ?_)
  · replace h := ifT h c25
    refine lv_ldc2 (v := (-1)) hx hb hown (hts _ kl_X8_279) dX8_few_20 ?_
    obtain ⟨rfl, rfl⟩ := reti h
    exact m_rl X w hr hlocks dX8_few_23
  · replace h := ifF h c25
    refine lv_iload_n hx hb dX8_few_10 rfl (lv_at hl 2 rfl) ?_
    refine lv_iconst (v := 0) hx hb dX8_few_11 (by decide) ?_
    refine lv_bipush (v := 99) hx hb dX8_few_12 (by decide) ?_
    obtain ⟨r26, q27, h⟩ := ob1i h
    refine m_ci (m_rS (As := [.int a2, .int (0 : Int32), .int (99 : Int32)]) (rest := []) X w hl mi_X8_isWithin ml_X8_93 (c_X8_isWithin l D cy ad A Kc C0 N S V a2 (0 : Int32) (99 : Int32) r26 q27) ⟨⟨rfl, rfl, Nat.le_of_ble_eq_true rfl, Nat.le_of_ble_eq_true rfl⟩, Nat.le_of_ble_eq_true rfl, Nat.le_of_ble_eq_true rfl⟩ rfl rfl (Nat.le_of_ble_eq_true rfl) dX8_few_14) w (fun H locs w => ?_)
    refine lv_if_ne (tgt := 24) hx hb dX8_few_17 (by decide) (fun c28 => ?_) (fun c28 => ?_)
    · replace h := ifF h c28
      refine lv_aload_n hx hb dX8_few_24 rfl (lv_at hl 0 rfl) ?_
      refine m_get X w o (shn hs 0 rfl) (shk hs 0 rfl : S.2.1 o = 8) ci8 0 (by decide) (fvR (shk hs 0 rfl : S.2.1 o = 8) rfl (shq hs 0 0 rfl rfl : S.2.2.2.1 o 0 = (o + 1) + 1)) rfl fl_X8_12 dX8_few_25 ?_
      refine m_getN X w (o + 1) (shn hs 1 rfl) (shk hs 1 rfl : S.2.1 (o + 1) = 0) ci0 5 (by decide) (fvR (shk hs 1 rfl : S.2.1 (o + 1) = 0) rfl (shq hs 1 5 rfl rfl : S.2.2.2.1 (o + 1) 5 = (o + 7) + 1)) rfl nf_X8_156 dX8_few_28 ?_
      refine lv_iconst (v := 1) hx hb dX8_few_31 (by decide) ?_
      obtain ⟨g29, h⟩ := cki h
      refine m_iald X w (o + 7) (shn hs 7 rfl) (shk hs 7 rfl : S.2.1 (o + 7) = 11) (shz hs 7 rfl : S.2.2.1 (o + 7) = 3) g29 dX8_few_32 ?_
      refine lv_topi (fun x30 ex30 => ?_)
      replace h := bdi h _ ex30
      refine lv_istore_n (lv' := [(3, .int x30), (0, .ref (ad o)), (1, .int a1), (2, .int a2)]) hx hb dX8_few_33 rfl hl (by decide) rfl (fun ls hl => ?_)
      refine lv_aload_n hx hb dX8_few_34 rfl (lv_at hl 1 rfl) ?_
      refine m_get X w o (shn hs 0 rfl) (shk hs 0 rfl : S.2.1 o = 8) ci8 13 (by decide) (fvR (shk hs 0 rfl : S.2.1 o = 8) rfl (shq hs 0 13 rfl rfl : S.2.2.2.1 o 13 = (o + 62) + 1)) rfl fl_X8_78 dX8_few_35 ?_
      refine lv_lconst (v := 0) hx hb dX8_few_38 (by decide) ?_
      obtain ⟨V33, q32, h⟩ := obvi h
      refine m_cv (m_rS (As := [.ref (ad (o + 62)), .long (0 : Int64)]) (rest := []) X w hl mi_J7_fill_d0a16 ml_X8_281 (c_J7_fill_d0a16 l D cy ad A Kc C0 N S V (o + 62) ⟨(shn hs 62 rfl), (shk hs 62 rfl : S.2.1 (o + 62) = 12)⟩ (0 : Int64) V33 q32) ⟨⟨rfl, rfl, Nat.le_of_ble_eq_true rfl, Nat.le_of_ble_eq_true rfl⟩, Nat.le_of_ble_eq_true rfl, Nat.le_of_ble_eq_true rfl⟩ rfl rfl (Nat.le_of_ble_eq_true rfl) dX8_few_39) w (fun H locs w => ?_)
      refine lv_aload_n hx hb dX8_few_42 rfl (lv_at hl 1 rfl) ?_
      refine m_get X w o (shn hs 0 rfl) (shk hs 0 rfl : S.2.1 o = 8) ci8 13 (by decide) (fvR (shk hs 0 rfl : S.2.1 o = 8) rfl (shq hs 0 13 rfl rfl : S.2.2.2.1 o 13 = (o + 62) + 1)) rfl fl_X8_78 dX8_few_43 ?_
      refine lv_iconst (v := 0) hx hb dX8_few_46 (by decide) ?_
      refine lv_ldc2 (v := 1000000000000) hx hb hown (hts _ kl_X8_287) dX8_few_47 ?_
      obtain ⟨g34, h⟩ := cki h
      refine m_last X w (o + 62) (shn hs 62 rfl) (shk hs 62 rfl : S.2.1 (o + 62) = 12) (shz hs 62 rfl : S.2.2.1 (o + 62) = 20) g34 dX8_few_50 (fun V35 H locs eV35 w => ?_)
      replace h := bdi h _ eV35
      refine lv_iconst (v := 0) hx hb dX8_few_51 (by decide) ?_
      refine lv_istore (lv' := [(4, .int (0 : Int32)), (3, .int x30), (0, .ref (ad o)), (1, .int a1), (2, .int a2)]) hx hb dX8_few_52 hl (by decide) rfl (fun ls hl => ?_)
      have g := L54 N V35 a1 a2 x30 (0 : Int32) h
      rw [hG] at g
      exact g H locs ls w (lv_sub hl [2, 3, 4, 1, 0] rfl)
    · replace h := ifT h c28
      refine lv_ldc2 (v := (-1)) hx hb hown (hts _ kl_X8_279) dX8_few_20 ?_
      obtain ⟨rfl, rfl⟩ := reti h
      exact m_rl X w hr hlocks dX8_few_23
def f_X8_back (N : Nat) (S : St) (V : Vt) (o : Nat) (a1 : Int32) : Option (Int32 × Vt) := ob1 (f_X8_isWithin N a1 (0 : Int32) (1 : Int32)) (fun r24 => if r24 = 0 then ob (f_X8_refused N S V o (-1 : Int32)) (fun r47 V49 => some (r47, V49)) else ck a1 2 (bd (V.2.2.2 (o + 11) a1.toNatClampNeg) (fun t28 => nl t28 (ob (f_X8_refused N S V o (-2 : Int32)) (fun r31 V33 => some (r31, V33))) (fun q29 => cg (shpB S q29 t0) (ck a1 2 (bd (V.2.2.2 (o + 11) a1.toNatClampNeg) (fun t35 => nl t35 (none) (fun q36 => cg (shpB S q36 t0) (obv (f_X0_copyFrom N S V (o + 1) q36) (fun V40 => obv (f_X1_clear N S V40 (o + 32)) (fun V43 => ob (f_X8_granted N S V43 o (0 : Int32)) (fun r44 V46 => some (r44, V46)))))))))))))
set_option maxHeartbeats 4000000 in
set_option maxRecDepth 100000 in
theorem c_X8_back (l : Launch) (D : va_G) (cy : Nat → ClassId) (ad : Nat → Nat) (A : Nat → Prop) (Kc : State → Prop) (C0 : Cx ad A Kc) (N : Nat) (S : St) (V : Vt) (o : Nat) (hs : shp S o t8) (a1 : Int32) (r : Int32) (V' : Vt) (h : f_X8_back N S V o a1 = some (r, V')) : Met l yX8_back (mw yX8_back cX8_back 2 (some .int)) { frames := 2, cells := 0, slots := 0, locals := 62 } (PreM D cy ad Kc S V [.ref (ad o), .int a1]) (QI D cy ad A r S V') 0 0 A := by
  refine ct_go C0 (own := RX8) rfl (by decide) rfl ?_
  intro p e s m below meth c ls H locs X hr hlocks hnm hl w
  have hx := X.1.1
  have hb := X.1.2.1
  have hown := X.2.1
  have hts := X.2.2.1
  have hl : lv_has ls 2 [(0, .ref (ad o)), (1, .int a1)] := hl
  rw [f_X8_back] at h
  refine lv_iload_n hx hb dX8_back_0 rfl (lv_at hl 1 rfl) ?_
  refine lv_iconst (v := 0) hx hb dX8_back_1 (by decide) ?_
  refine lv_iconst (v := 1) hx hb dX8_back_2 (by decide) ?_
  obtain ⟨r24, q25, h⟩ := ob1i h
  refine m_ci (m_rS (As := [.int a1, .int (0 : Int32), .int (1 : Int32)]) (rest := []) X w hl mi_X8_isWithin ml_X8_93 (c_X8_isWithin l D cy ad A Kc C0 N S V a1 (0 : Int32) (1 : Int32) r24 q25) ⟨⟨rfl, rfl, Nat.le_of_ble_eq_true rfl, Nat.le_of_ble_eq_true rfl⟩, Nat.le_of_ble_eq_true rfl, Nat.le_of_ble_eq_true rfl⟩ rfl rfl (Nat.le_of_ble_eq_true rfl) dX8_back_3) w (fun H locs w => ?_)
  refine lv_if_ne (tgt := 15) hx hb dX8_back_6 (by decide) (fun c26 => ?_) (fun c26 => ?_)
  · replace h := ifF h c26
    refine lv_aload_n hx hb dX8_back_15 rfl (lv_at hl 0 rfl) ?_
    refine m_get X w o (shn hs 0 rfl) (shk hs 0 rfl : S.2.1 o = 8) ci8 1 (by decide) (fvR (shk hs 0 rfl : S.2.1 o = 8) rfl (shq hs 0 1 rfl rfl : S.2.2.2.1 o 1 = (o + 11) + 1)) rfl fl_X8_16 dX8_back_16 ?_
    refine lv_iload_n hx hb dX8_back_19 rfl (lv_at hl 1 rfl) ?_
    obtain ⟨g27, h⟩ := cki h
    refine m_aald X w (o + 11) (shn hs 11 rfl) (shk hs 11 rfl : S.2.1 (o + 11) = 14) 4 rfl rfl rfl rfl (shz hs 11 rfl : S.2.2.1 (o + 11) = 2) g27 dX8_back_20 ?_
    obtain ⟨t28, et28⟩ : ∃ y : Nat, y = V.2.2.2 (o + 11) a1.toNatClampNeg := ⟨_, rfl⟩
    rw [← et28]
    replace h := bdi h _ et28
    cases t28 with
    | zero =>
      replace h := nl0 h
      refine lv_ifnonnullN hx hb dX8_back_21 ?_
      refine lv_aload_n hx hb dX8_back_24 rfl (lv_at hl 0 rfl) ?_
      refine lv_bipush (v := (-2)) hx hb dX8_back_25 (by decide) ?_
      obtain ⟨r31, V33, q32, h⟩ := obi h
      refine m_ci (m_rV (As := [.int (-2 : Int32)]) (rest := []) X w hl mi_X8_refused ml_X8_97 o (shn hs 0 rfl) (shk hs 0 rfl : S.2.1 o = 8) rfl (c_X8_refused l D cy ad A Kc C0 N S V o hs (-2 : Int32) r31 V33 q32) ⟨⟨rfl, rfl, Nat.le_of_ble_eq_true rfl, Nat.le_of_ble_eq_true rfl⟩, Nat.le_of_ble_eq_true rfl, Nat.le_of_ble_eq_true rfl⟩ rfl rfl (Nat.le_of_ble_eq_true rfl) dX8_back_27) w (fun H locs w => ?_)
      obtain ⟨rfl, rfl⟩ := reti h
      exact m_ri X w hr hlocks dX8_back_30
    | succ q29 =>
      replace h := nls h
      obtain ⟨g30, h⟩ := cgi h
      have hs_q29 := shp_of g30
      refine lv_ifnonnull (tgt := 31) hx hb dX8_back_21 (by decide) ?_
      refine lv_aload_n hx hb dX8_back_31 rfl (lv_at hl 0 rfl) ?_
      refine m_get X w o (shn hs 0 rfl) (shk hs 0 rfl : S.2.1 o = 8) ci8 0 (by decide) (fvR (shk hs 0 rfl : S.2.1 o = 8) rfl (shq hs 0 0 rfl rfl : S.2.2.2.1 o 0 = (o + 1) + 1)) rfl fl_X8_12 dX8_back_32 ?_
      refine lv_aload_n hx hb dX8_back_35 rfl (lv_at hl 0 rfl) ?_
      refine m_get X w o (shn hs 0 rfl) (shk hs 0 rfl : S.2.1 o = 8) ci8 1 (by decide) (fvR (shk hs 0 rfl : S.2.1 o = 8) rfl (shq hs 0 1 rfl rfl : S.2.2.2.1 o 1 = (o + 11) + 1)) rfl fl_X8_16 dX8_back_36 ?_
      refine lv_iload_n hx hb dX8_back_39 rfl (lv_at hl 1 rfl) ?_
      obtain ⟨g34, h⟩ := cki h
      refine m_aald X w (o + 11) (shn hs 11 rfl) (shk hs 11 rfl : S.2.1 (o + 11) = 14) 4 rfl rfl rfl rfl (shz hs 11 rfl : S.2.2.1 (o + 11) = 2) g34 dX8_back_40 ?_
      obtain ⟨t35, et35⟩ : ∃ y : Nat, y = V.2.2.2 (o + 11) a1.toNatClampNeg := ⟨_, rfl⟩
      rw [← et35]
      replace h := bdi h _ et35
      cases t35 with
      | zero =>
        replace h := nl0 h
        cases h
      | succ q36 =>
        replace h := nls h
        obtain ⟨g37, h⟩ := cgi h
        have hs_q36 := shp_of g37
        obtain ⟨V40, q39, h⟩ := obvi h
        refine m_cv (m_rV (As := [.ref (ad q36)]) (rest := []) X w hl mi_X0_copyFrom ml_X8_180 (o + 1) (shn hs 1 rfl) (shk hs 1 rfl : S.2.1 (o + 1) = 0) rfl (c_X0_copyFrom l D cy ad A Kc C0 N S V (o + 1) (sb_8_1 hs) q36 hs_q36 V40 q39) ⟨⟨rfl, rfl, Nat.le_of_ble_eq_true rfl, Nat.le_of_ble_eq_true rfl⟩, Nat.le_of_ble_eq_true rfl, Nat.le_of_ble_eq_true rfl⟩ rfl rfl (Nat.le_of_ble_eq_true rfl) dX8_back_41) w (fun H locs w => ?_)
        refine lv_aload_n hx hb dX8_back_44 rfl (lv_at hl 0 rfl) ?_
        refine m_get X w o (shn hs 0 rfl) (shk hs 0 rfl : S.2.1 o = 8) ci8 4 (by decide) (fvR (shk hs 0 rfl : S.2.1 o = 8) rfl (shq hs 0 4 rfl rfl : S.2.2.2.1 o 4 = (o + 32) + 1)) rfl fl_X8_29 dX8_back_45 ?_
        obtain ⟨V43, q42, h⟩ := obvi h
        refine m_cv (m_rV (As := []) (rest := []) X w hl mi_X1_clear ml_X8_104 (o + 32) (shn hs 32 rfl) (shk hs 32 rfl : S.2.1 (o + 32) = 1) rfl (c_X1_clear l D cy ad A Kc C0 N S V40 (o + 32) (sb_8_32 hs) V43 q42) ⟨⟨rfl, rfl, Nat.le_of_ble_eq_true rfl, Nat.le_of_ble_eq_true rfl⟩, Nat.le_of_ble_eq_true rfl, Nat.le_of_ble_eq_true rfl⟩ rfl rfl (Nat.le_of_ble_eq_true rfl) dX8_back_48) w (fun H locs w => ?_)
        refine lv_aload_n hx hb dX8_back_51 rfl (lv_at hl 0 rfl) ?_
        refine lv_iconst (v := 0) hx hb dX8_back_52 (by decide) ?_
        obtain ⟨r44, V46, q45, h⟩ := obi h
        refine m_ci (m_rV (As := [.int (0 : Int32)]) (rest := []) X w hl mi_X8_granted ml_X8_107 o (shn hs 0 rfl) (shk hs 0 rfl : S.2.1 o = 8) rfl (c_X8_granted l D cy ad A Kc C0 N S V43 o hs (0 : Int32) r44 V46 q45) ⟨⟨rfl, rfl, Nat.le_of_ble_eq_true rfl, Nat.le_of_ble_eq_true rfl⟩, Nat.le_of_ble_eq_true rfl, Nat.le_of_ble_eq_true rfl⟩ rfl rfl (Nat.le_of_ble_eq_true rfl) dX8_back_53) w (fun H locs w => ?_)
        obtain ⟨rfl, rfl⟩ := reti h
        exact m_ri X w hr hlocks dX8_back_56
  · replace h := ifT h c26
    refine lv_aload_n hx hb dX8_back_9 rfl (lv_at hl 0 rfl) ?_
    refine lv_iconst (v := (-1)) hx hb dX8_back_10 (by decide) ?_
    obtain ⟨r47, V49, q48, h⟩ := obi h
    refine m_ci (m_rV (As := [.int (-1 : Int32)]) (rest := []) X w hl mi_X8_refused ml_X8_97 o (shn hs 0 rfl) (shk hs 0 rfl : S.2.1 o = 8) rfl (c_X8_refused l D cy ad A Kc C0 N S V o hs (-1 : Int32) r47 V49 q48) ⟨⟨rfl, rfl, Nat.le_of_ble_eq_true rfl, Nat.le_of_ble_eq_true rfl⟩, Nat.le_of_ble_eq_true rfl, Nat.le_of_ble_eq_true rfl⟩ rfl rfl (Nat.le_of_ble_eq_true rfl) dX8_back_11) w (fun H locs w => ?_)
    obtain ⟨rfl, rfl⟩ := reti h
    exact m_ri X w hr hlocks dX8_back_14
def f_X8_count (N : Nat) (S : St) (V : Vt) (o : Nat) (a1 : Int32) : Option Int32 := ob1 (f_X8_isWithin N a1 (7 : Int32) (11 : Int32)) (fun r9 => if r9 = 0 then ob1 (f_X8_isWithin N a1 (13 : Int32) (15 : Int32)) (fun r12 => if r12 = 0 then if a1 = (0 : Int32) then some (V.1 (o + 1) 9) else if a1 = (1 : Int32) then ob1 (f_X0_fenceCount N S V (o + 1)) (fun r17 => some r17) else if a1 = (2 : Int32) then some (V.1 (o + 1) 12) else if a1 = (3 : Int32) then some (V.1 (o + 1) 13) else if a1 = (4 : Int32) then some (V.1 (o + 1) 10) else if a1 = (5 : Int32) then some (V.1 (o + 32) 1) else if a1 = (6 : Int32) then some (V.1 o 15) else if a1 = (7 : Int32) then some (-1 : Int32) else if a1 = (8 : Int32) then some (-1 : Int32) else if a1 = (9 : Int32) then some (-1 : Int32) else if a1 = (10 : Int32) then some (-1 : Int32) else if a1 = (11 : Int32) then some (-1 : Int32) else if a1 = (12 : Int32) then some (V.1 (o + 1) 11) else some (-1 : Int32) else ck (a1 - (13 : Int32)) 3 (some (V.2.1 (o + 7) (a1 - (13 : Int32)).toNatClampNeg))) else ck (a1 - (7 : Int32)) 5 (some (V.2.1 (o + 63) (a1 - (7 : Int32)).toNatClampNeg)))
set_option maxHeartbeats 4000000 in
set_option maxRecDepth 100000 in
theorem c_X8_count (l : Launch) (D : va_G) (cy : Nat → ClassId) (ad : Nat → Nat) (A : Nat → Prop) (Kc : State → Prop) (C0 : Cx ad A Kc) (N : Nat) (S : St) (V : Vt) (o : Nat) (hs : shp S o t8) (a1 : Int32) (r : Int32) (h : f_X8_count N S V o a1 = some r) : Met l yX8_count (mw yX8_count cX8_count 2 (some .int)) { frames := 1, cells := 0, slots := 0, locals := 22 } (PreM D cy ad Kc S V [.ref (ad o), .int a1]) (QI D cy ad A r S V) 0 0 A := by
  refine ct_go C0 (own := RX8) rfl (by decide) rfl ?_
  intro p e s m below meth c ls H locs X hr hlocks hnm hl w
  have hx := X.1.1
  have hb := X.1.2.1
  have hown := X.2.1
  have hts := X.2.2.1
  have hl : lv_has ls 2 [(0, .ref (ad o)), (1, .int a1)] := hl
  rw [f_X8_count] at h
  refine lv_iload_n hx hb dX8_count_0 rfl (lv_at hl 1 rfl) ?_
  refine lv_bipush (v := 7) hx hb dX8_count_1 (by decide) ?_
  refine lv_bipush (v := 11) hx hb dX8_count_3 (by decide) ?_
  obtain ⟨r9, q10, h⟩ := ob1i h
  refine m_ci (m_rS (As := [.int a1, .int (7 : Int32), .int (11 : Int32)]) (rest := []) X w hl mi_X8_isWithin ml_X8_93 (c_X8_isWithin l D cy ad A Kc C0 N S V a1 (7 : Int32) (11 : Int32) r9 q10) ⟨⟨rfl, rfl, Nat.le_of_ble_eq_true rfl, Nat.le_of_ble_eq_true rfl⟩, Nat.le_of_ble_eq_true rfl, Nat.le_of_ble_eq_true rfl⟩ rfl rfl (Nat.le_of_ble_eq_true rfl) dX8_count_5) w (fun H locs w => ?_)
  refine lv_if_eq (tgt := 21) hx hb dX8_count_8 (by decide) (fun c11 => ?_) (fun c11 => ?_)
  · replace h := ifT h c11
    refine lv_iload_n hx hb dX8_count_21 rfl (lv_at hl 1 rfl) ?_
    refine lv_bipush (v := 13) hx hb dX8_count_22 (by decide) ?_
    refine lv_bipush (v := 15) hx hb dX8_count_24 (by decide) ?_
    obtain ⟨r12, q13, h⟩ := ob1i h
    refine m_ci (m_rS (As := [.int a1, .int (13 : Int32), .int (15 : Int32)]) (rest := []) X w hl mi_X8_isWithin ml_X8_93 (c_X8_isWithin l D cy ad A Kc C0 N S V a1 (13 : Int32) (15 : Int32) r12 q13) ⟨⟨rfl, rfl, Nat.le_of_ble_eq_true rfl, Nat.le_of_ble_eq_true rfl⟩, Nat.le_of_ble_eq_true rfl, Nat.le_of_ble_eq_true rfl⟩ rfl rfl (Nat.le_of_ble_eq_true rfl) dX8_count_26) w (fun H locs w => ?_)
    refine lv_if_eq (tgt := 45) hx hb dX8_count_29 (by decide) (fun c14 => ?_) (fun c14 => ?_)
    · replace h := ifT h c14
      refine lv_iload_n hx hb dX8_count_45 rfl (lv_at hl 1 rfl) ?_
      rcases Decidable.em (a1 = (0 : Int32)) with c15 | c15
      · replace h := ifT h c15
        refine lv_tableIn (tgt := 112) hx hb dX8_count_46 (by rw [c15]; decide) (by rw [c15]; decide) (by rw [c15]; rfl) (by decide) ?_
        refine lv_aload_n hx hb dX8_count_112 rfl (lv_at hl 0 rfl) ?_
        refine m_get X w o (shn hs 0 rfl) (shk hs 0 rfl : S.2.1 o = 8) ci8 0 (by decide) (fvR (shk hs 0 rfl : S.2.1 o = 8) rfl (shq hs 0 0 rfl rfl : S.2.2.2.1 o 0 = (o + 1) + 1)) rfl fl_X8_12 dX8_count_113 ?_
        refine m_getN X w (o + 1) (shn hs 1 rfl) (shk hs 1 rfl : S.2.1 (o + 1) = 0) ci0 9 (by decide) (fvI (shk hs 1 rfl : S.2.1 (o + 1) = 0) rfl) rfl nf_X8_138 dX8_count_116 ?_
        obtain rfl := Option.some.inj h
        exact m_ri X w hr hlocks dX8_count_119
      · replace h := ifF h c15
        rcases Decidable.em (a1 = (1 : Int32)) with c16 | c16
        · replace h := ifT h c16
          refine lv_tableIn (tgt := 120) hx hb dX8_count_46 (by rw [c16]; decide) (by rw [c16]; decide) (by rw [c16]; rfl) (by decide) ?_
          refine lv_aload_n hx hb dX8_count_120 rfl (lv_at hl 0 rfl) ?_
          refine m_get X w o (shn hs 0 rfl) (shk hs 0 rfl : S.2.1 o = 8) ci8 0 (by decide) (fvR (shk hs 0 rfl : S.2.1 o = 8) rfl (shq hs 0 0 rfl rfl : S.2.2.2.1 o 0 = (o + 1) + 1)) rfl fl_X8_12 dX8_count_121 ?_
          obtain ⟨r17, q18, h⟩ := ob1i h
          refine m_ci (m_rV (As := []) (rest := []) X w hl mi_X0_fenceCount ml_X8_295 (o + 1) (shn hs 1 rfl) (shk hs 1 rfl : S.2.1 (o + 1) = 0) rfl (c_X0_fenceCount l D cy ad A Kc C0 N S V (o + 1) (sb_8_1 hs) r17 q18) ⟨⟨rfl, rfl, Nat.le_of_ble_eq_true rfl, Nat.le_of_ble_eq_true rfl⟩, Nat.le_of_ble_eq_true rfl, Nat.le_of_ble_eq_true rfl⟩ rfl rfl (Nat.le_of_ble_eq_true rfl) dX8_count_124) w (fun H locs w => ?_)
          obtain rfl := Option.some.inj h
          exact m_ri X w hr hlocks dX8_count_127
        · replace h := ifF h c16
          rcases Decidable.em (a1 = (2 : Int32)) with c19 | c19
          · replace h := ifT h c19
            refine lv_tableIn (tgt := 128) hx hb dX8_count_46 (by rw [c19]; decide) (by rw [c19]; decide) (by rw [c19]; rfl) (by decide) ?_
            refine lv_aload_n hx hb dX8_count_128 rfl (lv_at hl 0 rfl) ?_
            refine m_get X w o (shn hs 0 rfl) (shk hs 0 rfl : S.2.1 o = 8) ci8 0 (by decide) (fvR (shk hs 0 rfl : S.2.1 o = 8) rfl (shq hs 0 0 rfl rfl : S.2.2.2.1 o 0 = (o + 1) + 1)) rfl fl_X8_12 dX8_count_129 ?_
            refine m_getN X w (o + 1) (shn hs 1 rfl) (shk hs 1 rfl : S.2.1 (o + 1) = 0) ci0 12 (by decide) (fvI (shk hs 1 rfl : S.2.1 (o + 1) = 0) rfl) rfl nf_X8_244 dX8_count_132 ?_
            obtain rfl := Option.some.inj h
            exact m_ri X w hr hlocks dX8_count_135
          · replace h := ifF h c19
            rcases Decidable.em (a1 = (3 : Int32)) with c20 | c20
            · replace h := ifT h c20
              refine lv_tableIn (tgt := 136) hx hb dX8_count_46 (by rw [c20]; decide) (by rw [c20]; decide) (by rw [c20]; rfl) (by decide) ?_
              refine lv_aload_n hx hb dX8_count_136 rfl (lv_at hl 0 rfl) ?_
              refine m_get X w o (shn hs 0 rfl) (shk hs 0 rfl : S.2.1 o = 8) ci8 0 (by decide) (fvR (shk hs 0 rfl : S.2.1 o = 8) rfl (shq hs 0 0 rfl rfl : S.2.2.2.1 o 0 = (o + 1) + 1)) rfl fl_X8_12 dX8_count_137 ?_
              refine m_getN X w (o + 1) (shn hs 1 rfl) (shk hs 1 rfl : S.2.1 (o + 1) = 0) ci0 13 (by decide) (fvI (shk hs 1 rfl : S.2.1 (o + 1) = 0) rfl) rfl nf_X8_267 dX8_count_140 ?_
              obtain rfl := Option.some.inj h
              exact m_ri X w hr hlocks dX8_count_143
            · replace h := ifF h c20
              rcases Decidable.em (a1 = (4 : Int32)) with c21 | c21
              · replace h := ifT h c21
                refine lv_tableIn (tgt := 144) hx hb dX8_count_46 (by rw [c21]; decide) (by rw [c21]; decide) (by rw [c21]; rfl) (by decide) ?_
                refine lv_aload_n hx hb dX8_count_144 rfl (lv_at hl 0 rfl) ?_
                refine m_get X w o (shn hs 0 rfl) (shk hs 0 rfl : S.2.1 o = 8) ci8 0 (by decide) (fvR (shk hs 0 rfl : S.2.1 o = 8) rfl (shq hs 0 0 rfl rfl : S.2.2.2.1 o 0 = (o + 1) + 1)) rfl fl_X8_12 dX8_count_145 ?_
                refine m_getN X w (o + 1) (shn hs 1 rfl) (shk hs 1 rfl : S.2.1 (o + 1) = 0) ci0 10 (by decide) (fvI (shk hs 1 rfl : S.2.1 (o + 1) = 0) rfl) rfl nf_X8_169 dX8_count_148 ?_
                obtain rfl := Option.some.inj h
                exact m_ri X w hr hlocks dX8_count_151
              · replace h := ifF h c21
                rcases Decidable.em (a1 = (5 : Int32)) with c22 | c22
                · replace h := ifT h c22
                  refine lv_tableIn (tgt := 152) hx hb dX8_count_46 (by rw [c22]; decide) (by rw [c22]; decide) (by rw [c22]; rfl) (by decide) ?_
                  refine lv_aload_n hx hb dX8_count_152 rfl (lv_at hl 0 rfl) ?_
                  refine m_get X w o (shn hs 0 rfl) (shk hs 0 rfl : S.2.1 o = 8) ci8 4 (by decide) (fvR (shk hs 0 rfl : S.2.1 o = 8) rfl (shq hs 0 4 rfl rfl : S.2.2.2.1 o 4 = (o + 32) + 1)) rfl fl_X8_29 dX8_count_153 ?_
                  refine m_getN X w (o + 32) (shn hs 32 rfl) (shk hs 32 rfl : S.2.1 (o + 32) = 1) ci1 1 (by decide) (fvI (shk hs 32 rfl : S.2.1 (o + 32) = 1) rfl) rfl nf_X8_298 dX8_count_156 ?_
                  obtain rfl := Option.some.inj h
                  exact m_ri X w hr hlocks dX8_count_159
                · replace h := ifF h c22
                  rcases Decidable.em (a1 = (6 : Int32)) with c23 | c23
                  · replace h := ifT h c23
                    refine lv_tableIn (tgt := 160) hx hb dX8_count_46 (by rw [c23]; decide) (by rw [c23]; decide) (by rw [c23]; rfl) (by decide) ?_
                    refine lv_aload_n hx hb dX8_count_160 rfl (lv_at hl 0 rfl) ?_
                    refine m_get X w o (shn hs 0 rfl) (shk hs 0 rfl : S.2.1 o = 8) ci8 15 (by decide) (fvI (shk hs 0 rfl : S.2.1 o = 8) rfl) rfl fl_X8_159 dX8_count_161 ?_
                    obtain rfl := Option.some.inj h
                    exact m_ri X w hr hlocks dX8_count_164
                  · replace h := ifF h c23
                    rcases Decidable.em (a1 = (7 : Int32)) with c24 | c24
                    · replace h := ifT h c24
                      refine lv_tableIn (tgt := 173) hx hb dX8_count_46 (by rw [c24]; decide) (by rw [c24]; decide) (by rw [c24]; rfl) (by decide) ?_
                      refine lv_iconst (v := (-1)) hx hb dX8_count_173 (by decide) ?_
                      obtain rfl := Option.some.inj h
                      exact m_ri X w hr hlocks dX8_count_174
                    · replace h := ifF h c24
                      rcases Decidable.em (a1 = (8 : Int32)) with c25 | c25
                      · replace h := ifT h c25
                        refine lv_tableIn (tgt := 173) hx hb dX8_count_46 (by rw [c25]; decide) (by rw [c25]; decide) (by rw [c25]; rfl) (by decide) ?_
                        refine lv_iconst (v := (-1)) hx hb dX8_count_173 (by decide) ?_
                        obtain rfl := Option.some.inj h
                        exact m_ri X w hr hlocks dX8_count_174
                      · replace h := ifF h c25
                        rcases Decidable.em (a1 = (9 : Int32)) with c26 | c26
                        · replace h := ifT h c26
                          refine lv_tableIn (tgt := 173) hx hb dX8_count_46 (by rw [c26]; decide) (by rw [c26]; decide) (by rw [c26]; rfl) (by decide) ?_
                          refine lv_iconst (v := (-1)) hx hb dX8_count_173 (by decide) ?_
                          obtain rfl := Option.some.inj h
                          exact m_ri X w hr hlocks dX8_count_174
                        · replace h := ifF h c26
                          rcases Decidable.em (a1 = (10 : Int32)) with c27 | c27
                          · replace h := ifT h c27
                            refine lv_tableIn (tgt := 173) hx hb dX8_count_46 (by rw [c27]; decide) (by rw [c27]; decide) (by rw [c27]; rfl) (by decide) ?_
                            refine lv_iconst (v := (-1)) hx hb dX8_count_173 (by decide) ?_
                            obtain rfl := Option.some.inj h
                            exact m_ri X w hr hlocks dX8_count_174
                          · replace h := ifF h c27
                            rcases Decidable.em (a1 = (11 : Int32)) with c28 | c28
                            · replace h := ifT h c28
                              refine lv_tableIn (tgt := 173) hx hb dX8_count_46 (by rw [c28]; decide) (by rw [c28]; decide) (by rw [c28]; rfl) (by decide) ?_
                              refine lv_iconst (v := (-1)) hx hb dX8_count_173 (by decide) ?_
                              obtain rfl := Option.some.inj h
                              exact m_ri X w hr hlocks dX8_count_174
                            · replace h := ifF h c28
                              rcases Decidable.em (a1 = (12 : Int32)) with c29 | c29
                              · replace h := ifT h c29
                                refine lv_tableIn (tgt := 165) hx hb dX8_count_46 (by rw [c29]; decide) (by rw [c29]; decide) (by rw [c29]; rfl) (by decide) ?_
                                refine lv_aload_n hx hb dX8_count_165 rfl (lv_at hl 0 rfl) ?_
                                refine m_get X w o (shn hs 0 rfl) (shk hs 0 rfl : S.2.1 o = 8) ci8 0 (by decide) (fvR (shk hs 0 rfl : S.2.1 o = 8) rfl (shq hs 0 0 rfl rfl : S.2.2.2.1 o 0 = (o + 1) + 1)) rfl fl_X8_12 dX8_count_166 ?_
                                refine m_getN X w (o + 1) (shn hs 1 rfl) (shk hs 1 rfl : S.2.1 (o + 1) = 0) ci0 11 (by decide) (fvI (shk hs 1 rfl : S.2.1 (o + 1) = 0) rfl) rfl nf_X8_194 dX8_count_169 ?_
                                obtain rfl := Option.some.inj h
                                exact m_ri X w hr hlocks dX8_count_172
                              · replace h := ifF h c29
                                refine lv_tableOut (tgt := 173) hx hb dX8_count_46 (sw_out [(0 : Int32), (1 : Int32), (2 : Int32), (3 : Int32), (4 : Int32), (5 : Int32), (6 : Int32), (7 : Int32), (8 : Int32), (9 : Int32), (10 : Int32), (11 : Int32), (12 : Int32)] (by decide) (by intro q hq; simp only [List.mem_cons, List.not_mem_nil, or_false] at hq; rcases hq with rfl | rfl | rfl | rfl | rfl | rfl | rfl | rfl | rfl | rfl | rfl | rfl | rfl <;> assumption)) (by decide) ?_
                                refine lv_iconst (v := (-1)) hx hb dX8_count_173 (by decide) ?_
                                obtain rfl := Option.some.inj h
                                exact m_ri X w hr hlocks dX8_count_174
    · replace h := ifF h c14
      refine lv_aload_n hx hb dX8_count_32 rfl (lv_at hl 0 rfl) ?_
      refine m_get X w o (shn hs 0 rfl) (shk hs 0 rfl : S.2.1 o = 8) ci8 0 (by decide) (fvR (shk hs 0 rfl : S.2.1 o = 8) rfl (shq hs 0 0 rfl rfl : S.2.2.2.1 o 0 = (o + 1) + 1)) rfl fl_X8_12 dX8_count_33 ?_
      refine m_getN X w (o + 1) (shn hs 1 rfl) (shk hs 1 rfl : S.2.1 (o + 1) = 0) ci0 5 (by decide) (fvR (shk hs 1 rfl : S.2.1 (o + 1) = 0) rfl (shq hs 1 5 rfl rfl : S.2.2.2.1 (o + 1) 5 = (o + 7) + 1)) rfl nf_X8_156 dX8_count_36 ?_
      refine lv_iload_n hx hb dX8_count_39 rfl (lv_at hl 1 rfl) ?_
      refine lv_bipush (v := 13) hx hb dX8_count_40 (by decide) ?_
      refine lv_isub hx hb dX8_count_42 ?_
      obtain ⟨g30, h⟩ := cki h
      refine m_iald X w (o + 7) (shn hs 7 rfl) (shk hs 7 rfl : S.2.1 (o + 7) = 11) (shz hs 7 rfl : S.2.2.1 (o + 7) = 3) g30 dX8_count_43 ?_
      obtain rfl := Option.some.inj h
      exact m_ri X w hr hlocks dX8_count_44
  · replace h := ifF h c11
    refine lv_aload_n hx hb dX8_count_11 rfl (lv_at hl 0 rfl) ?_
    refine m_get X w o (shn hs 0 rfl) (shk hs 0 rfl : S.2.1 o = 8) ci8 14 (by decide) (fvR (shk hs 0 rfl : S.2.1 o = 8) rfl (shq hs 0 14 rfl rfl : S.2.2.2.1 o 14 = (o + 63) + 1)) rfl fl_X8_82 dX8_count_12 ?_
    refine lv_iload_n hx hb dX8_count_15 rfl (lv_at hl 1 rfl) ?_
    refine lv_bipush (v := 7) hx hb dX8_count_16 (by decide) ?_
    refine lv_isub hx hb dX8_count_18 ?_
    obtain ⟨g31, h⟩ := cki h
    refine m_iald X w (o + 63) (shn hs 63 rfl) (shk hs 63 rfl : S.2.1 (o + 63) = 11) (shz hs 63 rfl : S.2.2.1 (o + 63) = 5) g31 dX8_count_19 ?_
    obtain rfl := Option.some.inj h
    exact m_ri X w hr hlocks dX8_count_20
def f_X8_judged (N : Nat) (S : St) (V : Vt) (o : Nat) (a1 : Int32) : Option (Int32 × Vt) := if 0 ≤ a1 then ob (f_X8_granted N S V o a1) (fun r8 V10 => some (r8, V10)) else ob (f_X8_refused N S V o a1) (fun r11 V13 => some (r11, V13))
set_option maxHeartbeats 4000000 in
set_option maxRecDepth 100000 in
theorem c_X8_judged (l : Launch) (D : va_G) (cy : Nat → ClassId) (ad : Nat → Nat) (A : Nat → Prop) (Kc : State → Prop) (C0 : Cx ad A Kc) (N : Nat) (S : St) (V : Vt) (o : Nat) (hs : shp S o t8) (a1 : Int32) (r : Int32) (V' : Vt) (h : f_X8_judged N S V o a1 = some (r, V')) : Met l yX8_judged (mw yX8_judged cX8_judged 2 (some .int)) { frames := 1, cells := 0, slots := 0, locals := 21 } (PreM D cy ad Kc S V [.ref (ad o), .int a1]) (QI D cy ad A r S V') 0 0 A := by
  refine ct_go C0 (own := RX8) rfl (by decide) rfl ?_
  intro p e s m below meth c ls H locs X hr hlocks hnm hl w
  have hx := X.1.1
  have hb := X.1.2.1
  have hown := X.2.1
  have hts := X.2.2.1
  have hl : lv_has ls 2 [(0, .ref (ad o)), (1, .int a1)] := hl
  rw [f_X8_judged] at h
  refine lv_iload_n hx hb dX8_judged_0 rfl (lv_at hl 1 rfl) ?_
  refine lv_if_ge (tgt := 12) hx hb dX8_judged_1 (by decide) (fun c7 => ?_) (fun c7 => ?_)
  · replace h := ifT h c7
    refine lv_aload_n hx hb dX8_judged_12 rfl (lv_at hl 0 rfl) ?_
    refine lv_iload_n hx hb dX8_judged_13 rfl (lv_at hl 1 rfl) ?_
    obtain ⟨r8, V10, q9, h⟩ := obi h
    refine m_ci (m_rV (As := [.int a1]) (rest := []) X w hl mi_X8_granted ml_X8_107 o (shn hs 0 rfl) (shk hs 0 rfl : S.2.1 o = 8) rfl (c_X8_granted l D cy ad A Kc C0 N S V o hs a1 r8 V10 q9) ⟨⟨rfl, rfl, Nat.le_of_ble_eq_true rfl, Nat.le_of_ble_eq_true rfl⟩, Nat.le_of_ble_eq_true rfl, Nat.le_of_ble_eq_true rfl⟩ rfl rfl (Nat.le_of_ble_eq_true rfl) dX8_judged_14) w (fun H locs w => ?_)
    obtain ⟨rfl, rfl⟩ := reti h
    exact m_ri X w hr hlocks dX8_judged_17
  · replace h := ifF h c7
    refine lv_aload_n hx hb dX8_judged_4 rfl (lv_at hl 0 rfl) ?_
    refine lv_iload_n hx hb dX8_judged_5 rfl (lv_at hl 1 rfl) ?_
    obtain ⟨r11, V13, q12, h⟩ := obi h
    refine m_ci (m_rV (As := [.int a1]) (rest := []) X w hl mi_X8_refused ml_X8_97 o (shn hs 0 rfl) (shk hs 0 rfl : S.2.1 o = 8) rfl (c_X8_refused l D cy ad A Kc C0 N S V o hs a1 r11 V13 q12) ⟨⟨rfl, rfl, Nat.le_of_ble_eq_true rfl, Nat.le_of_ble_eq_true rfl⟩, Nat.le_of_ble_eq_true rfl, Nat.le_of_ble_eq_true rfl⟩ rfl rfl (Nat.le_of_ble_eq_true rfl) dX8_judged_6) w (fun H locs w => ?_)
    refine lv_goto (tgt := 17) hx hb dX8_judged_9 (by decide) ?_
    obtain ⟨rfl, rfl⟩ := reti h
    exact m_ri X w hr hlocks dX8_judged_17
def f_X2_mostEven_114 (N : Nat) (S : St) (o : Nat) (K82 : Vt → Int32 → Int32 → Int32 → Int32 → Option (Int32 × Vt)) (V : Vt) (v2 : Int32) (v3 : Int32) (v4 : Int32) (v5 : Int32) : Option (Int32 × Vt) := bd (v5 + (1 : Int32)) (fun x24 => K82 V v2 v3 v4 x24)
def f_X2_mostEven_82 (N : Nat) (S : St) (o : Nat) : Nat → Vt → Int32 → Int32 → Int32 → Int32 → Option (Int32 × Vt)
  | 0, _, _, _, _, _ => none
  | n + 1, V, v2, v3, v4, v5 => if v4 < v5 then ck v4 1024 (some (V.2.1 (o + 3) v4.toNatClampNeg, V)) else ck v5 1024 (if (V.2.1 (o + 2) v5.toNatClampNeg) = 0 then ob1 (f_X2_mostIn N S V o v5 v2 v3) (fun r25 => ck v5 1024 (bd (sA V (o + 3) v5.toNatClampNeg r25) (fun V28 => f_X2_mostEven_114 N S o (f_X2_mostEven_82 N S o n) V28 v2 v3 v4 v5))) else f_X2_mostEven_114 N S o (f_X2_mostEven_82 N S o n) V v2 v3 v4 v5)
def f_X2_mostEven_12 (N : Nat) (S : St) (o : Nat) (K3 : Vt → Int32 → Int32 → Int32 → Int32 → Option (Int32 × Vt)) : Nat → Vt → Int32 → Int32 → Int32 → Int32 → Int32 → Option (Int32 × Vt)
  | 0, _, _, _, _, _, _ => none
  | n + 1, V, v1, v2, v3, v4, v5 => if ((1 : Int32) <<< (v4 &&& 31)) ≤ v5 then bd (v4 + (1 : Int32)) (fun x30 => K3 V v1 v2 v3 x30) else ck v5 1024 (ck v4 10 (ck (v5 ||| ((1 : Int32) <<< (v4 &&& 31))) 1024 (bd (sA V (o + 2) (v5 ||| ((1 : Int32) <<< (v4 &&& 31))).toNatClampNeg ((V.2.1 (o + 2) v5.toNatClampNeg) + (V.2.1 (o + 1) v4.toNatClampNeg))) (fun V34 => bd (v5 + (1 : Int32)) (fun x35 => (f_X2_mostEven_12 N S o K3 n) V34 v1 v2 v3 v4 x35)))))
def f_X2_mostEven_3 (N : Nat) (S : St) (o : Nat) : Nat → Vt → Int32 → Int32 → Int32 → Int32 → Option (Int32 × Vt)
  | 0, _, _, _, _, _ => none
  | n + 1, V, v1, v2, v3, v4 => if v1 ≤ v4 then bd (((1 : Int32) <<< (v1 &&& 31)) - (1 : Int32)) (fun x17 => ck x17 1024 (if (V.2.1 (o + 2) x17.toNatClampNeg) = 0 then f_X2_mostEven_82 N S o N V v2 v3 x17 (1 : Int32) else some ((-1 : Int32), V))) else f_X2_mostEven_12 N S o (f_X2_mostEven_3 N S o n) N V v1 v2 v3 v4 (0 : Int32)
def f_X2_mostEven (N : Nat) (S : St) (V : Vt) (o : Nat) (a1 : Int32) (a2 : Int32) (a3 : Int32) : Option (Int32 × Vt) := f_X2_mostEven_3 N S o N V a1 a2 a3 (0 : Int32)
set_option maxHeartbeats 4000000 in
set_option maxRecDepth 100000 in
theorem c_X2_mostEven (l : Launch) (D : va_G) (cy : Nat → ClassId) (ad : Nat → Nat) (A : Nat → Prop) (Kc : State → Prop) (C0 : Cx ad A Kc) (N : Nat) (S : St) (V : Vt) (o : Nat) (hs : shp S o t2) (a1 : Int32) (a2 : Int32) (a3 : Int32) (r : Int32) (V' : Vt) (h : f_X2_mostEven N S V o a1 a2 a3 = some (r, V')) : Met l yX2_mostEven (mw yX2_mostEven cX2_mostEven 6 (some .int)) { frames := 2, cells := 0, slots := 0, locals := 67 } (PreM D cy ad Kc S V [.ref (ad o), .int a1, .int a2, .int a3]) (QI D cy ad A r S V') 0 0 A := by
  refine ct_go C0 (own := RX2) rfl (by decide) rfl ?_
  intro p e s m below meth c ls H locs X hr hlocks hnm hl w
  have hx := X.1.1
  have hb := X.1.2.1
  have hown := X.2.1
  have hts := X.2.2.1
  have hl : lv_has ls 6 [(0, .ref (ad o)), (1, .int a1), (2, .int a2), (3, .int a3)] := hl
  obtain ⟨G, hG⟩ : ∃ G : Nat → Vt → List (Nat × Value) → List Value → Prop, G = fun pc V lv st => ∀ (H : Heap) (locs : List Loc) (ls : Array Slot), Wd D cy ad A s.heap S V H locs → lv_has ls 6 lv → W p l e { frames := 2, cells := 0, slots := 0, locals := 67 } s m ([.ref (ad o), .int a1, .int a2, .int a3] : List Value).toArray below meth c H locs 0 0 (MQ below (QI D cy ad A r S V') ([.ref (ad o), .int a1, .int a2, .int a3] : List Value).toArray s 0 0 A) (F0 m pc ls st) := ⟨_, rfl⟩
  have L82 : ∀ (n82 : Nat) (V : Vt) (v2 : Int32) (v3 : Int32) (v4 : Int32) (v5 : Int32), f_X2_mostEven_82 N S o n82 V v2 v3 v4 v5 = some (r, V') → G 82 V [(0, .ref (ad o)), (2, .int v2), (3, .int v3), (4, .int v4), (5, .int v5)] [] := by
    intro n82
    induction n82 with
    | zero => intro V v2 v3 v4 v5 h; rw [f_X2_mostEven_82] at h; cases h
    | succ n82 ih82 =>
      have B114 : ∀ (V : Vt) (v2 : Int32) (v3 : Int32) (v4 : Int32) (v5 : Int32), f_X2_mostEven_114 N S o (f_X2_mostEven_82 N S o n82) V v2 v3 v4 v5 = some (r, V') → G 114 V [(0, .ref (ad o)), (2, .int v2), (3, .int v3), (4, .int v4), (5, .int v5)] [] := by
        intro V v2 v3 v4 v5 h
        rw [hG]
        intro H locs ls w hl
        rw [f_X2_mostEven_114] at h
        obtain ⟨x24, ex24⟩ : ∃ y : Int32, y = v5 + (1 : Int32) := ⟨_, rfl⟩
        replace h := bdi h _ ex24
        refine lv_iinc (v := x24) (lv' := [(5, .int x24), (0, .ref (ad o)), (2, .int v2), (3, .int v3), (4, .int v4)]) hx hb dX2_mostEven_114 hl (k := 4) rfl (by rw [ex24]; rfl) (by decide) rfl (fun ls hl => ?_)
        refine lv_goto (tgt := 82) hx hb dX2_mostEven_117 (by decide) ?_
        have g := ih82 V v2 v3 v4 x24 h
        rw [hG] at g
        exact g H locs ls w (lv_sub hl [1, 2, 3, 4, 0] rfl)
      intro V v2 v3 v4 v5 h
      rw [hG]
      intro H locs ls w hl
      rw [f_X2_mostEven_82] at h
      refine lv_iload hx hb dX2_mostEven_82 (lv_at hl 4 rfl) ?_
      refine lv_iload hx hb dX2_mostEven_84 (lv_at hl 3 rfl) ?_
      refine lv_icmp_gt (tgt := 120) hx hb dX2_mostEven_86 (by decide) (fun c20 => ?_) (fun c20 => ?_)
      · replace h := ifT h c20
        refine lv_aload_n hx hb dX2_mostEven_120 rfl (lv_at hl 0 rfl) ?_
        refine m_get X w o (shn hs 0 rfl) (shk hs 0 rfl : S.2.1 o = 2) ci2 2 (by decide) (fvR (shk hs 0 rfl : S.2.1 o = 2) rfl (shq hs 0 2 rfl rfl : S.2.2.2.1 o 2 = (o + 3) + 1)) rfl fl_X2_18 dX2_mostEven_121 ?_
        refine lv_iload hx hb dX2_mostEven_124 (lv_at hl 3 rfl) ?_
        obtain ⟨g21, h⟩ := cki h
        refine m_iald X w (o + 3) (shn hs 3 rfl) (shk hs 3 rfl : S.2.1 (o + 3) = 11) (shz hs 3 rfl : S.2.2.1 (o + 3) = 1024) g21 dX2_mostEven_126 ?_
        obtain ⟨rfl, rfl⟩ := reti h
        exact m_ri X w hr hlocks dX2_mostEven_127
      · replace h := ifF h c20
        refine lv_aload_n hx hb dX2_mostEven_89 rfl (lv_at hl 0 rfl) ?_
        refine m_get X w o (shn hs 0 rfl) (shk hs 0 rfl : S.2.1 o = 2) ci2 1 (by decide) (fvR (shk hs 0 rfl : S.2.1 o = 2) rfl (shq hs 0 1 rfl rfl : S.2.2.2.1 o 1 = (o + 2) + 1)) rfl fl_X2_15 dX2_mostEven_90 ?_
        refine lv_iload hx hb dX2_mostEven_93 (lv_at hl 4 rfl) ?_
        obtain ⟨g22, h⟩ := cki h
        refine m_iald X w (o + 2) (shn hs 2 rfl) (shk hs 2 rfl : S.2.1 (o + 2) = 11) (shz hs 2 rfl : S.2.2.1 (o + 2) = 1024) g22 dX2_mostEven_95 ?_
        refine lv_if_ne (tgt := 114) hx hb dX2_mostEven_96 (by decide) (fun c23 => ?_) (fun c23 => ?_)
        · replace h := ifF h c23
          have g := B114 V v2 v3 v4 v5 h
          rw [hG] at g
          exact g H locs ls w (lv_sub hl [0, 1, 2, 3, 4] rfl)
        · replace h := ifT h c23
          refine lv_aload_n hx hb dX2_mostEven_99 rfl (lv_at hl 0 rfl) ?_
          refine m_get X w o (shn hs 0 rfl) (shk hs 0 rfl : S.2.1 o = 2) ci2 2 (by decide) (fvR (shk hs 0 rfl : S.2.1 o = 2) rfl (shq hs 0 2 rfl rfl : S.2.2.2.1 o 2 = (o + 3) + 1)) rfl fl_X2_18 dX2_mostEven_100 ?_
          refine lv_iload hx hb dX2_mostEven_103 (lv_at hl 4 rfl) ?_
          refine lv_aload_n hx hb dX2_mostEven_105 rfl (lv_at hl 0 rfl) ?_
          refine lv_iload hx hb dX2_mostEven_106 (lv_at hl 4 rfl) ?_
          refine lv_iload_n hx hb dX2_mostEven_108 rfl (lv_at hl 1 rfl) ?_
          refine lv_iload_n hx hb dX2_mostEven_109 rfl (lv_at hl 2 rfl) ?_
          obtain ⟨r25, q26, h⟩ := ob1i h
          refine m_ci (m_rV (As := [.int v5, .int v2, .int v3]) (rest := [.int v5, .ref (ad (o + 3))]) X w hl mi_X2_mostIn ml_X2_21 o (shn hs 0 rfl) (shk hs 0 rfl : S.2.1 o = 2) rfl (c_X2_mostIn l D cy ad A Kc C0 N S V o hs v5 v2 v3 r25 q26) ⟨⟨rfl, rfl, Nat.le_of_ble_eq_true rfl, Nat.le_of_ble_eq_true rfl⟩, Nat.le_of_ble_eq_true rfl, Nat.le_of_ble_eq_true rfl⟩ rfl rfl (Nat.le_of_ble_eq_true rfl) dX2_mostEven_110) w (fun H locs w => ?_)
          obtain ⟨g27, h⟩ := cki h
          refine m_iast X w (o + 3) (shn hs 3 rfl) (shk hs 3 rfl : S.2.1 (o + 3) = 11) (shz hs 3 rfl : S.2.2.1 (o + 3) = 1024) g27 dX2_mostEven_113 (fun V28 H locs eV28 w => ?_)
          replace h := bdi h _ eV28
          have g := B114 V28 v2 v3 v4 v5 h
          rw [hG] at g
          exact g H locs ls w (lv_sub hl [0, 1, 2, 3, 4] rfl)
  have L3 : ∀ (n3 : Nat) (V : Vt) (v1 : Int32) (v2 : Int32) (v3 : Int32) (v4 : Int32), f_X2_mostEven_3 N S o n3 V v1 v2 v3 v4 = some (r, V') → G 3 V [(0, .ref (ad o)), (1, .int v1), (2, .int v2), (3, .int v3), (4, .int v4)] [] := by
    intro n3
    induction n3 with
    | zero => intro V v1 v2 v3 v4 h; rw [f_X2_mostEven_3] at h; cases h
    | succ n3 ih3 =>
      have L12 : ∀ (n12 : Nat) (V : Vt) (v1 : Int32) (v2 : Int32) (v3 : Int32) (v4 : Int32) (v5 : Int32), f_X2_mostEven_12 N S o (f_X2_mostEven_3 N S o n3) n12 V v1 v2 v3 v4 v5 = some (r, V') → G 12 V [(0, .ref (ad o)), (1, .int v1), (2, .int v2), (3, .int v3), (4, .int v4), (5, .int v5)] [] := by
        intro n12
        induction n12 with
        | zero => intro V v1 v2 v3 v4 v5 h; rw [f_X2_mostEven_12] at h; cases h
        | succ n12 ih12 =>
          intro V v1 v2 v3 v4 v5 h
          rw [hG]
          intro H locs ls w hl
          rw [f_X2_mostEven_12] at h
          refine lv_iload hx hb dX2_mostEven_12 (lv_at hl 5 rfl) ?_
          refine lv_iconst (v := 1) hx hb dX2_mostEven_14 (by decide) ?_
          refine lv_iload hx hb dX2_mostEven_15 (lv_at hl 4 rfl) ?_
          refine lv_ishl hx hb dX2_mostEven_17 ?_
          refine lv_icmp_ge (tgt := 54) hx hb dX2_mostEven_18 (by decide) (fun c29 => ?_) (fun c29 => ?_)
          · replace h := ifT h c29
            obtain ⟨x30, ex30⟩ : ∃ y : Int32, y = v4 + (1 : Int32) := ⟨_, rfl⟩
            replace h := bdi h _ ex30
            refine lv_iinc (v := x30) (lv' := [(4, .int x30), (0, .ref (ad o)), (1, .int v1), (2, .int v2), (3, .int v3), (5, .int v5)]) hx hb dX2_mostEven_54 hl (k := 4) rfl (by rw [ex30]; rfl) (by decide) rfl (fun ls hl => ?_)
            refine lv_goto (tgt := 3) hx hb dX2_mostEven_57 (by decide) ?_
            have g := ih3 V v1 v2 v3 x30 h
            rw [hG] at g
            exact g H locs ls w (lv_sub hl [1, 2, 3, 4, 0] rfl)
          · replace h := ifF h c29
            refine lv_aload_n hx hb dX2_mostEven_21 rfl (lv_at hl 0 rfl) ?_
            refine m_get X w o (shn hs 0 rfl) (shk hs 0 rfl : S.2.1 o = 2) ci2 1 (by decide) (fvR (shk hs 0 rfl : S.2.1 o = 2) rfl (shq hs 0 1 rfl rfl : S.2.2.2.1 o 1 = (o + 2) + 1)) rfl fl_X2_15 dX2_mostEven_22 ?_
            refine lv_iload hx hb dX2_mostEven_25 (lv_at hl 5 rfl) ?_
            refine lv_iconst (v := 1) hx hb dX2_mostEven_27 (by decide) ?_
            refine lv_iload hx hb dX2_mostEven_28 (lv_at hl 4 rfl) ?_
            refine lv_ishl hx hb dX2_mostEven_30 ?_
            refine lv_ior hx hb dX2_mostEven_31 ?_
            refine lv_aload_n hx hb dX2_mostEven_32 rfl (lv_at hl 0 rfl) ?_
            refine m_get X w o (shn hs 0 rfl) (shk hs 0 rfl : S.2.1 o = 2) ci2 1 (by decide) (fvR (shk hs 0 rfl : S.2.1 o = 2) rfl (shq hs 0 1 rfl rfl : S.2.2.2.1 o 1 = (o + 2) + 1)) rfl fl_X2_15 dX2_mostEven_33 ?_
            refine lv_iload hx hb dX2_mostEven_36 (lv_at hl 5 rfl) ?_
            obtain ⟨g31, h⟩ := cki h
            refine m_iald X w (o + 2) (shn hs 2 rfl) (shk hs 2 rfl : S.2.1 (o + 2) = 11) (shz hs 2 rfl : S.2.2.1 (o + 2) = 1024) g31 dX2_mostEven_38 ?_
            refine lv_aload_n hx hb dX2_mostEven_39 rfl (lv_at hl 0 rfl) ?_
            refine m_get X w o (shn hs 0 rfl) (shk hs 0 rfl : S.2.1 o = 2) ci2 0 (by decide) (fvR (shk hs 0 rfl : S.2.1 o = 2) rfl (shq hs 0 0 rfl rfl : S.2.2.2.1 o 0 = (o + 1) + 1)) rfl fl_X2_11 dX2_mostEven_40 ?_
            refine lv_iload hx hb dX2_mostEven_43 (lv_at hl 4 rfl) ?_
            obtain ⟨g32, h⟩ := cki h
            refine m_iald X w (o + 1) (shn hs 1 rfl) (shk hs 1 rfl : S.2.1 (o + 1) = 11) (shz hs 1 rfl : S.2.2.1 (o + 1) = 10) g32 dX2_mostEven_45 ?_
            refine lv_iadd hx hb dX2_mostEven_46 ?_
            obtain ⟨g33, h⟩ := cki h
            refine m_iast X w (o + 2) (shn hs 2 rfl) (shk hs 2 rfl : S.2.1 (o + 2) = 11) (shz hs 2 rfl : S.2.2.1 (o + 2) = 1024) g33 dX2_mostEven_47 (fun V34 H locs eV34 w => ?_)
            replace h := bdi h _ eV34
            obtain ⟨x35, ex35⟩ : ∃ y : Int32, y = v5 + (1 : Int32) := ⟨_, rfl⟩
            replace h := bdi h _ ex35
            refine lv_iinc (v := x35) (lv' := [(5, .int x35), (0, .ref (ad o)), (1, .int v1), (2, .int v2), (3, .int v3), (4, .int v4)]) hx hb dX2_mostEven_48 hl (k := 5) rfl (by rw [ex35]; rfl) (by decide) rfl (fun ls hl => ?_)
            refine lv_goto (tgt := 12) hx hb dX2_mostEven_51 (by decide) ?_
            have g := ih12 V34 v1 v2 v3 v4 x35 h
            rw [hG] at g
            exact g H locs ls w (lv_sub hl [1, 2, 3, 4, 5, 0] rfl)
      intro V v1 v2 v3 v4 h
      rw [hG]
      intro H locs ls w hl
      rw [f_X2_mostEven_3] at h
      refine lv_iload hx hb dX2_mostEven_3 (lv_at hl 4 rfl) ?_
      refine lv_iload_n hx hb dX2_mostEven_5 rfl (lv_at hl 1 rfl) ?_
      refine lv_icmp_ge (tgt := 60) hx hb dX2_mostEven_6 (by decide) (fun c16 => ?_) (fun c16 => ?_)
      · replace h := ifT h c16
        refine lv_iconst (v := 1) hx hb dX2_mostEven_60 (by decide) ?_
        refine lv_iload_n hx hb dX2_mostEven_61 rfl (lv_at hl 1 rfl) ?_
        refine lv_ishl hx hb dX2_mostEven_62 ?_
        refine lv_iconst (v := 1) hx hb dX2_mostEven_63 (by decide) ?_
        refine lv_isub hx hb dX2_mostEven_64 ?_
        refine lv_topi (fun x17 ex17 => ?_)
        replace h := bdi h _ ex17
        refine lv_istore (lv' := [(4, .int x17), (0, .ref (ad o)), (1, .int v1), (2, .int v2), (3, .int v3)]) hx hb dX2_mostEven_65 hl (by decide) rfl (fun ls hl => ?_)
        refine lv_aload_n hx hb dX2_mostEven_67 rfl (lv_at hl 1 rfl) ?_
        refine m_get X w o (shn hs 0 rfl) (shk hs 0 rfl : S.2.1 o = 2) ci2 1 (by decide) (fvR (shk hs 0 rfl : S.2.1 o = 2) rfl (shq hs 0 1 rfl rfl : S.2.2.2.1 o 1 = (o + 2) + 1)) rfl fl_X2_15 dX2_mostEven_68 ?_
        refine lv_iload hx hb dX2_mostEven_71 (lv_at hl 0 rfl) ?_
        obtain ⟨g18, h⟩ := cki h
        refine m_iald X w (o + 2) (shn hs 2 rfl) (shk hs 2 rfl : S.2.1 (o + 2) = 11) (shz hs 2 rfl : S.2.2.1 (o + 2) = 1024) g18 dX2_mostEven_73 ?_
        refine lv_if_eq (tgt := 79) hx hb dX2_mostEven_74 (by decide) (fun c19 => ?_) (fun c19 => ?_)
        · replace h := ifT h c19
          refine lv_iconst (v := 1) hx hb dX2_mostEven_79 (by decide) ?_
          refine lv_istore (lv' := [(5, .int (1 : Int32)), (4, .int x17), (0, .ref (ad o)), (1, .int v1), (2, .int v2), (3, .int v3)]) hx hb dX2_mostEven_80 hl (by decide) rfl (fun ls hl => ?_)
          have g := L82 N V v2 v3 x17 (1 : Int32) h
          rw [hG] at g
          exact g H locs ls w (lv_sub hl [2, 4, 5, 1, 0] rfl)
        · replace h := ifF h c19
          refine lv_iconst (v := (-1)) hx hb dX2_mostEven_77 (by decide) ?_
          obtain ⟨rfl, rfl⟩ := reti h
          exact m_ri X w hr hlocks dX2_mostEven_78
      · replace h := ifF h c16
        refine lv_iconst (v := 0) hx hb dX2_mostEven_9 (by decide) ?_
        refine lv_istore (lv' := [(5, .int (0 : Int32)), (0, .ref (ad o)), (1, .int v1), (2, .int v2), (3, .int v3), (4, .int v4)]) hx hb dX2_mostEven_10 hl (by decide) rfl (fun ls hl => ?_)
        have g := L12 N V v1 v2 v3 v4 (0 : Int32) h
        rw [hG] at g
        exact g H locs ls w (lv_sub hl [1, 2, 3, 4, 5, 0] rfl)
  rw [f_X2_mostEven] at h
  refine lv_iconst (v := 0) hx hb dX2_mostEven_0 (by decide) ?_
  refine lv_istore (lv' := [(4, .int (0 : Int32)), (0, .ref (ad o)), (1, .int a1), (2, .int a2), (3, .int a3)]) hx hb dX2_mostEven_1 hl (by decide) rfl (fun ls hl => ?_)
  have g := L3 N V a1 a2 a3 (0 : Int32) h
  rw [hG] at g
  exact g H locs ls w (lv_sub hl [1, 2, 3, 4, 0] rfl)
def f_X6_lastTold_n (N : Nat) (S : St) (V : Vt) (o : Nat) (a1 : Nat) (a3 : Int32) (a4 : Int32) (a5 : Int32) : Option (Int32 × Vt) := some ((-2000000000 : Int32), V)
set_option maxHeartbeats 4000000 in
set_option maxRecDepth 100000 in
theorem c_X6_lastTold_n (l : Launch) (D : va_G) (cy : Nat → ClassId) (ad : Nat → Nat) (A : Nat → Prop) (Kc : State → Prop) (C0 : Cx ad A Kc) (N : Nat) (S : St) (V : Vt) (o : Nat) (hs : shp S o t6) (a1 : Nat) (hs_a1 : shp S a1 t0) (a3 : Int32) (a4 : Int32) (a5 : Int32) (r : Int32) (V' : Vt) (h : f_X6_lastTold_n N S V o a1 a3 a4 a5 = some (r, V')) : Met l yX6_lastTold (mw yX6_lastTold cX6_lastTold 8 (some .int)) { frames := 2, cells := 0, slots := 0, locals := 55 } (PreM D cy ad Kc S V [.ref (ad o), .ref (ad a1), .null, .int a3, .int a4, .int a5]) (QI D cy ad A r S V') 0 0 A := by
  refine ct_go C0 (own := RX6) rfl (by decide) rfl ?_
  intro p e s m below meth c ls H locs X hr hlocks hnm hl w
  have hx := X.1.1
  have hb := X.1.2.1
  have hown := X.2.1
  have hts := X.2.2.1
  have hl : lv_has ls 8 [(0, .ref (ad o)), (1, .ref (ad a1)), (2, .null), (3, .int a3), (4, .int a4), (5, .int a5)] := hl
  rw [f_X6_lastTold_n] at h
  refine lv_aload_nN hx hb dX6_lastTold_0 rfl (lv_at hl 2 rfl) ?_
  refine lv_ifnonnullN hx hb dX6_lastTold_1 ?_
  refine lv_ldc (v := (-2000000000)) hx hb hown (hts _ kc_X6_22) dX6_lastTold_4 ?_
  obtain ⟨rfl, rfl⟩ := reti h
  exact m_ri X w hr hlocks dX6_lastTold_6
def f_X6_lastTold_t_100 (N : Nat) (S : St) (o : Nat) (a1 : Nat) (a2 : Nat) (K24 : Vt → Int32 → Int32 → Option (Int32 × Vt)) (V : Vt) (v3 : Int32) (v6 : Int32) : Option (Int32 × Vt) := bd (v6 + (-1 : Int32)) (fun x26 => K24 V v3 x26)
def f_X6_lastTold_t_24 (N : Nat) (S : St) (o : Nat) (a1 : Nat) (a2 : Nat) : Nat → Vt → Int32 → Int32 → Option (Int32 × Vt)
  | 0, _, _, _ => none
  | n + 1, V, v3, v6 => if v6 < 0 then some ((-2000000000 : Int32), V) else ob1 (f_X7_kindOf N S V a2 v6) (fun r23 => if r23 = v3 then ob1 (f_X7_testPlace N S V a2 v6) (fun r27 => ob (f_X4_worthAt N S V (o + 1) (a2 + 1) r27 (o + 3) (1 : Int32)) (fun r29 V31 => if r29 = (1 : Int32) then ob1 (f_X7_sumPlace N S V31 a2 v6 (0 : Int32)) (fun r33 => ob (f_X4_worthAt N S V31 (o + 1) (a2 + 1) r33 (o + 3) (0 : Int32)) (fun r35 V37 => if r35 = (-2000000000 : Int32) then f_X6_lastTold_t_100 N S o a1 a2 (f_X6_lastTold_t_24 N S o a1 a2 n) V37 v3 v6 else some (r35, V37))) else f_X6_lastTold_t_100 N S o a1 a2 (f_X6_lastTold_t_24 N S o a1 a2 n) V31 v3 v6)) else f_X6_lastTold_t_100 N S o a1 a2 (f_X6_lastTold_t_24 N S o a1 a2 n) V v3 v6)
def f_X6_lastTold_t (N : Nat) (S : St) (V : Vt) (o : Nat) (a1 : Nat) (a2 : Nat) (a3 : Int32) (a4 : Int32) (a5 : Int32) : Option (Int32 × Vt) := obv (f_X6_fillWorths N S V o a1 a4 a5) (fun V20 => bd ((V20.1 a2 2) - (1 : Int32)) (fun x21 => f_X6_lastTold_t_24 N S o a1 a2 N V20 a3 x21))
set_option maxHeartbeats 4000000 in
set_option maxRecDepth 100000 in
theorem c_X6_lastTold_t (l : Launch) (D : va_G) (cy : Nat → ClassId) (ad : Nat → Nat) (A : Nat → Prop) (Kc : State → Prop) (C0 : Cx ad A Kc) (N : Nat) (S : St) (V : Vt) (o : Nat) (hs : shp S o t6) (a1 : Nat) (hs_a1 : shp S a1 t0) (a2 : Nat) (hs_a2 : tsh S a2) (a3 : Int32) (a4 : Int32) (a5 : Int32) (r : Int32) (V' : Vt) (h : f_X6_lastTold_t N S V o a1 a2 a3 a4 a5 = some (r, V')) : Met l yX6_lastTold (mw yX6_lastTold cX6_lastTold 8 (some .int)) { frames := 2, cells := 0, slots := 0, locals := 55 } (PreM D cy ad Kc S V [.ref (ad o), .ref (ad a1), .ref (ad a2), .int a3, .int a4, .int a5]) (QI D cy ad A r S V') 0 0 A := by
  refine ct_go C0 (own := RX6) rfl (by decide) rfl ?_
  intro p e s m below meth c ls H locs X hr hlocks hnm hl w
  have hx := X.1.1
  have hb := X.1.2.1
  have hown := X.2.1
  have hts := X.2.2.1
  have hl : lv_has ls 8 [(0, .ref (ad o)), (1, .ref (ad a1)), (2, .ref (ad a2)), (3, .int a3), (4, .int a4), (5, .int a5)] := hl
  obtain ⟨G, hG⟩ : ∃ G : Nat → Vt → List (Nat × Value) → List Value → Prop, G = fun pc V lv st => ∀ (H : Heap) (locs : List Loc) (ls : Array Slot), Wd D cy ad A s.heap S V H locs → lv_has ls 8 lv → W p l e { frames := 2, cells := 0, slots := 0, locals := 55 } s m ([.ref (ad o), .ref (ad a1), .ref (ad a2), .int a3, .int a4, .int a5] : List Value).toArray below meth c H locs 0 0 (MQ below (QI D cy ad A r S V') ([.ref (ad o), .ref (ad a1), .ref (ad a2), .int a3, .int a4, .int a5] : List Value).toArray s 0 0 A) (F0 m pc ls st) := ⟨_, rfl⟩
  have L24 : ∀ (n24 : Nat) (V : Vt) (v3 : Int32) (v6 : Int32), f_X6_lastTold_t_24 N S o a1 a2 n24 V v3 v6 = some (r, V') → G 24 V [(0, .ref (ad o)), (2, .ref (ad a2)), (3, .int v3), (6, .int v6)] [] := by
    intro n24
    induction n24 with
    | zero => intro V v3 v6 h; rw [f_X6_lastTold_t_24] at h; cases h
    | succ n24 ih24 =>
      have B100 : ∀ (V : Vt) (v3 : Int32) (v6 : Int32), f_X6_lastTold_t_100 N S o a1 a2 (f_X6_lastTold_t_24 N S o a1 a2 n24) V v3 v6 = some (r, V') → G 100 V [(0, .ref (ad o)), (2, .ref (ad a2)), (3, .int v3), (6, .int v6)] [] := by
        intro V v3 v6 h
        rw [hG]
        intro H locs ls w hl
        rw [f_X6_lastTold_t_100] at h
        obtain ⟨x26, ex26⟩ : ∃ y : Int32, y = v6 + (-1 : Int32) := ⟨_, rfl⟩
        replace h := bdi h _ ex26
        refine lv_iinc (v := x26) (lv' := [(6, .int x26), (0, .ref (ad o)), (2, .ref (ad a2)), (3, .int v3)]) hx hb dX6_lastTold_100 hl (k := 3) rfl (by rw [ex26]; rfl) (by decide) rfl (fun ls hl => ?_)
        refine lv_goto (tgt := 24) hx hb dX6_lastTold_103 (by decide) ?_
        have g := ih24 V v3 x26 h
        rw [hG] at g
        exact g H locs ls w (lv_sub hl [1, 2, 3, 0] rfl)
      intro V v3 v6 h
      rw [hG]
      intro H locs ls w hl
      rw [f_X6_lastTold_t_24] at h
      refine lv_iload hx hb dX6_lastTold_24 (lv_at hl 3 rfl) ?_
      refine lv_if_lt (tgt := 106) hx hb dX6_lastTold_26 (by decide) (fun c22 => ?_) (fun c22 => ?_)
      · replace h := ifT h c22
        refine lv_ldc (v := (-2000000000)) hx hb hown (hts _ kc_X6_22) dX6_lastTold_106 ?_
        obtain ⟨rfl, rfl⟩ := reti h
        exact m_ri X w hr hlocks dX6_lastTold_108
      · replace h := ifF h c22
        refine lv_aload_n hx hb dX6_lastTold_29 rfl (lv_at hl 1 rfl) ?_
        refine lv_iload hx hb dX6_lastTold_30 (lv_at hl 3 rfl) ?_
        obtain ⟨r23, q24, h⟩ := ob1i h
        refine m_ci (m_rV (As := [.int v6]) (rest := []) X w hl mi_X7_kindOf ml_X6_33 a2 (Nat.lt_of_le_of_lt (Nat.le_add_right a2 2) hs_a2.1.1) hs_a2.1.2 rfl (c_X7_kindOf l D cy ad A Kc C0 N S V a2 hs_a2 v6 r23 q24) ⟨⟨rfl, rfl, Nat.le_of_ble_eq_true rfl, Nat.le_of_ble_eq_true rfl⟩, Nat.le_of_ble_eq_true rfl, Nat.le_of_ble_eq_true rfl⟩ rfl rfl (Nat.le_of_ble_eq_true rfl) dX6_lastTold_32) w (fun H locs w => ?_)
        refine lv_iload_n hx hb dX6_lastTold_35 rfl (lv_at hl 2 rfl) ?_
        refine lv_icmp_ne (tgt := 100) hx hb dX6_lastTold_36 (by decide) (fun c25 => ?_) (fun c25 => ?_)
        · replace h := ifF h c25
          have g := B100 V v3 v6 h
          rw [hG] at g
          exact g H locs ls w (lv_sub hl [0, 1, 2, 3] rfl)
        · replace h := ifT h c25
          refine lv_aload_n hx hb dX6_lastTold_39 rfl (lv_at hl 0 rfl) ?_
          refine m_get X w o (shn hs 0 rfl) (shk hs 0 rfl : S.2.1 o = 6) ci6 0 (by decide) (fvR (shk hs 0 rfl : S.2.1 o = 6) rfl (shq hs 0 0 rfl rfl : S.2.2.2.1 o 0 = (o + 1) + 1)) rfl fl_X6_12 dX6_lastTold_40 ?_
          refine lv_aload_n hx hb dX6_lastTold_43 rfl (lv_at hl 1 rfl) ?_
          refine m_getN X w a2 (Nat.lt_of_le_of_lt (Nat.le_add_right a2 2) hs_a2.1.1) hs_a2.1.2 ci7 0 (by decide) (fvR hs_a2.1.2 rfl hs_a2.2.1.1) rfl nf_X6_37 dX6_lastTold_44 ?_
          refine lv_aload_n hx hb dX6_lastTold_47 rfl (lv_at hl 1 rfl) ?_
          refine lv_iload hx hb dX6_lastTold_48 (lv_at hl 3 rfl) ?_
          obtain ⟨r27, q28, h⟩ := ob1i h
          refine m_ci (m_rV (As := [.int v6]) (rest := [.ref (ad (a2 + 1)), .ref (ad (o + 1))]) X w hl mi_X7_testPlace ml_X6_40 a2 (Nat.lt_of_le_of_lt (Nat.le_add_right a2 2) hs_a2.1.1) hs_a2.1.2 rfl (c_X7_testPlace l D cy ad A Kc C0 N S V a2 hs_a2 v6 r27 q28) ⟨⟨rfl, rfl, Nat.le_of_ble_eq_true rfl, Nat.le_of_ble_eq_true rfl⟩, Nat.le_of_ble_eq_true rfl, Nat.le_of_ble_eq_true rfl⟩ rfl rfl (Nat.le_of_ble_eq_true rfl) dX6_lastTold_50) w (fun H locs w => ?_)
          refine lv_aload_n hx hb dX6_lastTold_53 rfl (lv_at hl 0 rfl) ?_
          refine m_get X w o (shn hs 0 rfl) (shk hs 0 rfl : S.2.1 o = 6) ci6 1 (by decide) (fvR (shk hs 0 rfl : S.2.1 o = 6) rfl (shq hs 0 1 rfl rfl : S.2.2.2.1 o 1 = (o + 3) + 1)) rfl fl_X6_18 dX6_lastTold_54 ?_
          refine lv_iconst (v := 1) hx hb dX6_lastTold_57 (by decide) ?_
          obtain ⟨r29, V31, q30, h⟩ := obi h
          refine m_ci (m_rV (As := [.ref (ad (a2 + 1)), .int r27, .ref (ad (o + 3)), .int (1 : Int32)]) (rest := []) X w hl mi_X4_worthAt ml_X6_43 (o + 1) (shn hs 1 rfl) (shk hs 1 rfl : S.2.1 (o + 1) = 4) rfl (c_X4_worthAt l D cy ad A Kc C0 N S V (o + 1) (sb_6_1 hs) (a2 + 1) ⟨(Nat.lt_of_succ_lt hs_a2.1.1), hs_a2.2.2.1⟩ r27 (o + 3) ⟨(shn hs 3 rfl), (shk hs 3 rfl : S.2.1 (o + 3) = 11)⟩ (1 : Int32) r29 V31 q30) ⟨⟨rfl, rfl, Nat.le_of_ble_eq_true rfl, Nat.le_of_ble_eq_true rfl⟩, Nat.le_of_ble_eq_true rfl, Nat.le_of_ble_eq_true rfl⟩ rfl rfl (Nat.le_of_ble_eq_true rfl) dX6_lastTold_58) w (fun H locs w => ?_)
          refine lv_iconst (v := 1) hx hb dX6_lastTold_61 (by decide) ?_
          refine lv_icmp_ne (tgt := 100) hx hb dX6_lastTold_62 (by decide) (fun c32 => ?_) (fun c32 => ?_)
          · replace h := ifF h c32
            have g := B100 V31 v3 v6 h
            rw [hG] at g
            exact g H locs ls w (lv_sub hl [0, 1, 2, 3] rfl)
          · replace h := ifT h c32
            refine lv_aload_n hx hb dX6_lastTold_65 rfl (lv_at hl 0 rfl) ?_
            refine m_get X w o (shn hs 0 rfl) (shk hs 0 rfl : S.2.1 o = 6) ci6 0 (by decide) (fvR (shk hs 0 rfl : S.2.1 o = 6) rfl (shq hs 0 0 rfl rfl : S.2.2.2.1 o 0 = (o + 1) + 1)) rfl fl_X6_12 dX6_lastTold_66 ?_
            refine lv_aload_n hx hb dX6_lastTold_69 rfl (lv_at hl 1 rfl) ?_
            refine m_getN X w a2 (Nat.lt_of_le_of_lt (Nat.le_add_right a2 2) hs_a2.1.1) hs_a2.1.2 ci7 0 (by decide) (fvR hs_a2.1.2 rfl hs_a2.2.1.1) rfl nf_X6_37 dX6_lastTold_70 ?_
            refine lv_aload_n hx hb dX6_lastTold_73 rfl (lv_at hl 1 rfl) ?_
            refine lv_iload hx hb dX6_lastTold_74 (lv_at hl 3 rfl) ?_
            refine lv_iconst (v := 0) hx hb dX6_lastTold_76 (by decide) ?_
            obtain ⟨r33, q34, h⟩ := ob1i h
            refine m_ci (m_rV (As := [.int v6, .int (0 : Int32)]) (rest := [.ref (ad (a2 + 1)), .ref (ad (o + 1))]) X w hl mi_X7_sumPlace ml_X6_47 a2 (Nat.lt_of_le_of_lt (Nat.le_add_right a2 2) hs_a2.1.1) hs_a2.1.2 rfl (c_X7_sumPlace l D cy ad A Kc C0 N S V31 a2 hs_a2 v6 (0 : Int32) r33 q34) ⟨⟨rfl, rfl, Nat.le_of_ble_eq_true rfl, Nat.le_of_ble_eq_true rfl⟩, Nat.le_of_ble_eq_true rfl, Nat.le_of_ble_eq_true rfl⟩ rfl rfl (Nat.le_of_ble_eq_true rfl) dX6_lastTold_77) w (fun H locs w => ?_)
            refine lv_aload_n hx hb dX6_lastTold_80 rfl (lv_at hl 0 rfl) ?_
            refine m_get X w o (shn hs 0 rfl) (shk hs 0 rfl : S.2.1 o = 6) ci6 1 (by decide) (fvR (shk hs 0 rfl : S.2.1 o = 6) rfl (shq hs 0 1 rfl rfl : S.2.2.2.1 o 1 = (o + 3) + 1)) rfl fl_X6_18 dX6_lastTold_81 ?_
            refine lv_iconst (v := 0) hx hb dX6_lastTold_84 (by decide) ?_
            obtain ⟨r35, V37, q36, h⟩ := obi h
            refine m_ci (m_rV (As := [.ref (ad (a2 + 1)), .int r33, .ref (ad (o + 3)), .int (0 : Int32)]) (rest := []) X w hl mi_X4_worthAt ml_X6_43 (o + 1) (shn hs 1 rfl) (shk hs 1 rfl : S.2.1 (o + 1) = 4) rfl (c_X4_worthAt l D cy ad A Kc C0 N S V31 (o + 1) (sb_6_1 hs) (a2 + 1) ⟨(Nat.lt_of_succ_lt hs_a2.1.1), hs_a2.2.2.1⟩ r33 (o + 3) ⟨(shn hs 3 rfl), (shk hs 3 rfl : S.2.1 (o + 3) = 11)⟩ (0 : Int32) r35 V37 q36) ⟨⟨rfl, rfl, Nat.le_of_ble_eq_true rfl, Nat.le_of_ble_eq_true rfl⟩, Nat.le_of_ble_eq_true rfl, Nat.le_of_ble_eq_true rfl⟩ rfl rfl (Nat.le_of_ble_eq_true rfl) dX6_lastTold_85) w (fun H locs w => ?_)
            refine lv_istore (lv' := [(7, .int r35), (0, .ref (ad o)), (2, .ref (ad a2)), (3, .int v3), (6, .int v6)]) hx hb dX6_lastTold_88 hl (by decide) rfl (fun ls hl => ?_)
            refine lv_iload hx hb dX6_lastTold_90 (lv_at hl 0 rfl) ?_
            refine lv_ldc (v := (-2000000000)) hx hb hown (hts _ kc_X6_22) dX6_lastTold_92 ?_
            refine lv_icmp_eq (tgt := 100) hx hb dX6_lastTold_94 (by decide) (fun c38 => ?_) (fun c38 => ?_)
            · replace h := ifT h c38
              have g := B100 V37 v3 v6 h
              rw [hG] at g
              exact g H locs ls w (lv_sub hl [1, 2, 3, 4] rfl)
            · replace h := ifF h c38
              refine lv_iload hx hb dX6_lastTold_97 (lv_at hl 0 rfl) ?_
              obtain ⟨rfl, rfl⟩ := reti h
              exact m_ri X w hr hlocks dX6_lastTold_99
  rw [f_X6_lastTold_t] at h
  refine lv_aload_n hx hb dX6_lastTold_0 rfl (lv_at hl 2 rfl) ?_
  refine lv_ifnonnull (tgt := 7) hx hb dX6_lastTold_1 (by decide) ?_
  refine lv_aload_n hx hb dX6_lastTold_7 rfl (lv_at hl 0 rfl) ?_
  refine lv_aload_n hx hb dX6_lastTold_8 rfl (lv_at hl 1 rfl) ?_
  refine lv_iload hx hb dX6_lastTold_9 (lv_at hl 4 rfl) ?_
  refine lv_iload hx hb dX6_lastTold_11 (lv_at hl 5 rfl) ?_
  obtain ⟨V20, q19, h⟩ := obvi h
  refine m_cv (m_rV (As := [.ref (ad a1), .int a4, .int a5]) (rest := []) X w hl mi_X6_fillWorths ml_X6_23 o (shn hs 0 rfl) (shk hs 0 rfl : S.2.1 o = 6) rfl (c_X6_fillWorths l D cy ad A Kc C0 N S V o hs a1 hs_a1 a4 a5 V20 q19) ⟨⟨rfl, rfl, Nat.le_of_ble_eq_true rfl, Nat.le_of_ble_eq_true rfl⟩, Nat.le_of_ble_eq_true rfl, Nat.le_of_ble_eq_true rfl⟩ rfl rfl (Nat.le_of_ble_eq_true rfl) dX6_lastTold_13) w (fun H locs w => ?_)
  refine lv_aload_n hx hb dX6_lastTold_16 rfl (lv_at hl 2 rfl) ?_
  refine m_getN X w a2 (Nat.lt_of_le_of_lt (Nat.le_add_right a2 2) hs_a2.1.1) hs_a2.1.2 ci7 2 (by decide) (fvI hs_a2.1.2 rfl) rfl nf_X6_27 dX6_lastTold_17 ?_
  refine lv_iconst (v := 1) hx hb dX6_lastTold_20 (by decide) ?_
  refine lv_isub hx hb dX6_lastTold_21 ?_
  refine lv_topi (fun x21 ex21 => ?_)
  replace h := bdi h _ ex21
  refine lv_istore (lv' := [(6, .int x21), (0, .ref (ad o)), (1, .ref (ad a1)), (2, .ref (ad a2)), (3, .int a3), (4, .int a4), (5, .int a5)]) hx hb dX6_lastTold_22 hl (by decide) rfl (fun ls hl => ?_)
  have g := L24 N V20 a3 x21 h
  rw [hG] at g
  exact g H locs ls w (lv_sub hl [1, 3, 4, 0] rfl)
def f_X8_of (N : Nat) (S : St) (V : Vt) (o : Nat) (a1 : Int32) (a2 : Int32) : Option Int32 := ob1 (f_X0_hasClerk N S V (o + 1) a1) (fun r6 => if r6 = 0 then some (-1 : Int32) else if a2 = (0 : Int32) then ck a1 5 (some (V.2.1 (o + 5) a1.toNatClampNeg)) else if a2 = (1 : Int32) then ob1 (f_X0_handOf N S V (o + 1) a1) (fun r12 => some r12) else some (-1 : Int32))
set_option maxHeartbeats 4000000 in
set_option maxRecDepth 100000 in
theorem c_X8_of (l : Launch) (D : va_G) (cy : Nat → ClassId) (ad : Nat → Nat) (A : Nat → Prop) (Kc : State → Prop) (C0 : Cx ad A Kc) (N : Nat) (S : St) (V : Vt) (o : Nat) (hs : shp S o t8) (a1 : Int32) (a2 : Int32) (r : Int32) (h : f_X8_of N S V o a1 a2 = some r) : Met l yX8_of (mw yX8_of cX8_of 3 (some .int)) { frames := 2, cells := 0, slots := 0, locals := 42 } (PreM D cy ad Kc S V [.ref (ad o), .int a1, .int a2]) (QI D cy ad A r S V) 0 0 A := by
  refine ct_go C0 (own := RX8) rfl (by decide) rfl ?_
  intro p e s m below meth c ls H locs X hr hlocks hnm hl w
  have hx := X.1.1
  have hb := X.1.2.1
  have hown := X.2.1
  have hts := X.2.2.1
  have hl : lv_has ls 3 [(0, .ref (ad o)), (1, .int a1), (2, .int a2)] := hl
  rw [f_X8_of] at h
  refine lv_aload_n hx hb dX8_of_0 rfl (lv_at hl 0 rfl) ?_
  refine m_get X w o (shn hs 0 rfl) (shk hs 0 rfl : S.2.1 o = 8) ci8 0 (by decide) (fvR (shk hs 0 rfl : S.2.1 o = 8) rfl (shq hs 0 0 rfl rfl : S.2.2.2.1 o 0 = (o + 1) + 1)) rfl fl_X8_12 dX8_of_1 ?_
  refine lv_iload_n hx hb dX8_of_4 rfl (lv_at hl 1 rfl) ?_
  obtain ⟨r6, q7, h⟩ := ob1i h
  refine m_ci (m_rV (As := [.int a1]) (rest := []) X w hl mi_X0_hasClerk ml_X8_147 (o + 1) (shn hs 1 rfl) (shk hs 1 rfl : S.2.1 (o + 1) = 0) rfl (c_X0_hasClerk l D cy ad A Kc C0 N S V (o + 1) (sb_8_1 hs) a1 r6 q7) ⟨⟨rfl, rfl, Nat.le_of_ble_eq_true rfl, Nat.le_of_ble_eq_true rfl⟩, Nat.le_of_ble_eq_true rfl, Nat.le_of_ble_eq_true rfl⟩ rfl rfl (Nat.le_of_ble_eq_true rfl) dX8_of_5) w (fun H locs w => ?_)
  refine lv_if_ne (tgt := 13) hx hb dX8_of_8 (by decide) (fun c8 => ?_) (fun c8 => ?_)
  · replace h := ifF h c8
    refine lv_iload_n hx hb dX8_of_13 rfl (lv_at hl 2 rfl) ?_
    rcases Decidable.em (a2 = (0 : Int32)) with c9 | c9
    · replace h := ifT h c9
      refine lv_lookup (tgt := 40) (off := 26) hx hb dX8_of_14 (by decide) (by rw [c9]; rfl) (by decide) ?_
      refine lv_aload_n hx hb dX8_of_40 rfl (lv_at hl 0 rfl) ?_
      refine m_get X w o (shn hs 0 rfl) (shk hs 0 rfl : S.2.1 o = 8) ci8 0 (by decide) (fvR (shk hs 0 rfl : S.2.1 o = 8) rfl (shq hs 0 0 rfl rfl : S.2.2.2.1 o 0 = (o + 1) + 1)) rfl fl_X8_12 dX8_of_41 ?_
      refine m_getN X w (o + 1) (shn hs 1 rfl) (shk hs 1 rfl : S.2.1 (o + 1) = 0) ci0 3 (by decide) (fvR (shk hs 1 rfl : S.2.1 (o + 1) = 0) rfl (shq hs 1 3 rfl rfl : S.2.2.2.1 (o + 1) 3 = (o + 5) + 1)) rfl nf_X8_141 dX8_of_44 ?_
      refine lv_iload_n hx hb dX8_of_47 rfl (lv_at hl 1 rfl) ?_
      obtain ⟨g10, h⟩ := cki h
      refine m_iald X w (o + 5) (shn hs 5 rfl) (shk hs 5 rfl : S.2.1 (o + 5) = 11) (shz hs 5 rfl : S.2.2.1 (o + 5) = 5) g10 dX8_of_48 ?_
      obtain rfl := Option.some.inj h
      exact m_ri X w hr hlocks dX8_of_49
    · replace h := ifF h c9
      rcases Decidable.em (a2 = (1 : Int32)) with c11 | c11
      · replace h := ifT h c11
        refine lv_lookup (tgt := 50) (off := 36) hx hb dX8_of_14 (by decide) (by rw [c11]; rfl) (by decide) ?_
        refine lv_aload_n hx hb dX8_of_50 rfl (lv_at hl 0 rfl) ?_
        refine m_get X w o (shn hs 0 rfl) (shk hs 0 rfl : S.2.1 o = 8) ci8 0 (by decide) (fvR (shk hs 0 rfl : S.2.1 o = 8) rfl (shq hs 0 0 rfl rfl : S.2.2.2.1 o 0 = (o + 1) + 1)) rfl fl_X8_12 dX8_of_51 ?_
        refine lv_iload_n hx hb dX8_of_54 rfl (lv_at hl 1 rfl) ?_
        obtain ⟨r12, q13, h⟩ := ob1i h
        refine m_ci (m_rV (As := [.int a1]) (rest := []) X w hl mi_X0_handOf ml_X8_150 (o + 1) (shn hs 1 rfl) (shk hs 1 rfl : S.2.1 (o + 1) = 0) rfl (c_X0_handOf l D cy ad A Kc C0 N S V (o + 1) (sb_8_1 hs) a1 r12 q13) ⟨⟨rfl, rfl, Nat.le_of_ble_eq_true rfl, Nat.le_of_ble_eq_true rfl⟩, Nat.le_of_ble_eq_true rfl, Nat.le_of_ble_eq_true rfl⟩ rfl rfl (Nat.le_of_ble_eq_true rfl) dX8_of_55) w (fun H locs w => ?_)
        obtain rfl := Option.some.inj h
        exact m_ri X w hr hlocks dX8_of_58
      · replace h := ifF h c11
        refine lv_lookup (tgt := 59) (off := 45) hx hb dX8_of_14 (by decide) (by show Op.lookupswitch.offset [(0, 26), (1, 36)] 45 (a2).toInt = _; rw [lv_osw (a := 0) c9 (by decide)]; rw [lv_osw (a := 1) c11 (by decide)]; rfl) (by decide) ?_
        refine lv_iconst (v := (-1)) hx hb dX8_of_59 (by decide) ?_
        obtain rfl := Option.some.inj h
        exact m_ri X w hr hlocks dX8_of_60
  · replace h := ifT h c8
    refine lv_iconst (v := (-1)) hx hb dX8_of_11 (by decide) ?_
    obtain rfl := Option.some.inj h
    exact m_ri X w hr hlocks dX8_of_12
def f_X8_undo (N : Nat) (S : St) (V : Vt) (o : Nat) : Option (Int32 × Vt) := ob (f_X1_takeBack N S V (o + 32) (o + 1)) (fun r7 V9 => ob (f_X8_judged N S V9 o r7) (fun r10 V12 => some (r10, V12)))
set_option maxHeartbeats 4000000 in
set_option maxRecDepth 100000 in
theorem c_X8_undo (l : Launch) (D : va_G) (cy : Nat → ClassId) (ad : Nat → Nat) (A : Nat → Prop) (Kc : State → Prop) (C0 : Cx ad A Kc) (N : Nat) (S : St) (V : Vt) (o : Nat) (hs : shp S o t8) (r : Int32) (V' : Vt) (h : f_X8_undo N S V o = some (r, V')) : Met l yX8_undo (mw yX8_undo cX8_undo 1 (some .int)) { frames := 2, cells := 0, slots := 0, locals := 42 } (PreM D cy ad Kc S V [.ref (ad o)]) (QI D cy ad A r S V') 0 0 A := by
  refine ct_go C0 (own := RX8) rfl (by decide) rfl ?_
  intro p e s m below meth c ls H locs X hr hlocks hnm hl w
  have hx := X.1.1
  have hb := X.1.2.1
  have hown := X.2.1
  have hts := X.2.2.1
  have hl : lv_has ls 1 [(0, .ref (ad o))] := hl
  rw [f_X8_undo] at h
  refine lv_aload_n hx hb dX8_undo_0 rfl (lv_at hl 0 rfl) ?_
  refine lv_aload_n hx hb dX8_undo_1 rfl (lv_at hl 0 rfl) ?_
  refine m_get X w o (shn hs 0 rfl) (shk hs 0 rfl : S.2.1 o = 8) ci8 4 (by decide) (fvR (shk hs 0 rfl : S.2.1 o = 8) rfl (shq hs 0 4 rfl rfl : S.2.2.2.1 o 4 = (o + 32) + 1)) rfl fl_X8_29 dX8_undo_2 ?_
  refine lv_aload_n hx hb dX8_undo_5 rfl (lv_at hl 0 rfl) ?_
  refine m_get X w o (shn hs 0 rfl) (shk hs 0 rfl : S.2.1 o = 8) ci8 0 (by decide) (fvR (shk hs 0 rfl : S.2.1 o = 8) rfl (shq hs 0 0 rfl rfl : S.2.2.2.1 o 0 = (o + 1) + 1)) rfl fl_X8_12 dX8_undo_6 ?_
  obtain ⟨r7, V9, q8, h⟩ := obi h
  refine m_ci (m_rV (As := [.ref (ad (o + 1))]) (rest := [.ref (ad o)]) X w hl mi_X1_takeBack ml_X8_204 (o + 32) (shn hs 32 rfl) (shk hs 32 rfl : S.2.1 (o + 32) = 1) rfl (c_X1_takeBack l D cy ad A Kc C0 N S V (o + 32) (sb_8_32 hs) (o + 1) (sb_8_1 hs) r7 V9 q8) ⟨⟨rfl, rfl, Nat.le_of_ble_eq_true rfl, Nat.le_of_ble_eq_true rfl⟩, Nat.le_of_ble_eq_true rfl, Nat.le_of_ble_eq_true rfl⟩ rfl rfl (Nat.le_of_ble_eq_true rfl) dX8_undo_9) w (fun H locs w => ?_)
  obtain ⟨r10, V12, q11, h⟩ := obi h
  refine m_ci (m_rV (As := [.int r7]) (rest := []) X w hl mi_X8_judged ml_X8_201 o (shn hs 0 rfl) (shk hs 0 rfl : S.2.1 o = 8) rfl (c_X8_judged l D cy ad A Kc C0 N S V9 o hs r7 r10 V12 q11) ⟨⟨rfl, rfl, Nat.le_of_ble_eq_true rfl, Nat.le_of_ble_eq_true rfl⟩, Nat.le_of_ble_eq_true rfl, Nat.le_of_ble_eq_true rfl⟩ rfl rfl (Nat.le_of_ble_eq_true rfl) dX8_undo_12) w (fun H locs w => ?_)
  obtain ⟨rfl, rfl⟩ := reti h
  exact m_ri X w hr hlocks dX8_undo_15
def f_X8_turned_58 (N : Nat) (S : St) (o : Nat) (K22 : Vt → Int32 → Int32 → Int32 → Int32 → Option (Int32 × Vt)) (V : Vt) (v1 : Int32) (v2 : Int32) (v3 : Int32) (v4 : Int32) : Option (Int32 × Vt) := bd (v4 + (1 : Int32)) (fun x18 => K22 V v1 v2 v3 x18)
def f_X8_turned_22 (N : Nat) (S : St) (o : Nat) (K11 : Vt → Int32 → Int32 → Int32 → Option (Int32 × Vt)) : Nat → Vt → Int32 → Int32 → Int32 → Int32 → Option (Int32 × Vt)
  | 0, _, _, _, _, _ => none
  | n + 1, V, v1, v2, v3, v4 => if (25 : Int32) ≤ v4 then bd (v3 + (1 : Int32)) (fun x13 => K11 V v1 v2 x13) else ob (f_X0_isEvenTurned N S V (o + 1) v3 v4) (fun r14 V16 => if r14 = 0 then f_X8_turned_58 N S o (f_X8_turned_22 N S o K11 n) V16 v1 v2 v3 v4 else if v2 = v1 then some (((100 : Int32) * v3) + v4, V16) else bd (v2 + (1 : Int32)) (fun x20 => f_X8_turned_58 N S o (f_X8_turned_22 N S o K11 n) V16 v1 x20 v3 v4))
def f_X8_turned_11 (N : Nat) (S : St) (o : Nat) : Nat → Vt → Int32 → Int32 → Int32 → Option (Int32 × Vt)
  | 0, _, _, _, _ => none
  | n + 1, V, v1, v2, v3 => if (25 : Int32) ≤ v3 then if v1 = (-1 : Int32) then some (v2, V) else some ((-1 : Int32), V) else bd (v3 + (1 : Int32)) (fun x11 => f_X8_turned_22 N S o (f_X8_turned_11 N S o n) N V v1 v2 v3 x11)
def f_X8_turned (N : Nat) (S : St) (V : Vt) (o : Nat) (a1 : Int32) : Option (Int32 × Vt) := if (-1 : Int32) ≤ a1 then f_X8_turned_11 N S o N V a1 (0 : Int32) (0 : Int32) else some ((-1 : Int32), V)
set_option maxHeartbeats 4000000 in
set_option maxRecDepth 100000 in
theorem c_X8_turned (l : Launch) (D : va_G) (cy : Nat → ClassId) (ad : Nat → Nat) (A : Nat → Prop) (Kc : State → Prop) (C0 : Cx ad A Kc) (N : Nat) (S : St) (V : Vt) (o : Nat) (hs : shp S o t8) (a1 : Int32) (r : Int32) (V' : Vt) (h : f_X8_turned N S V o a1 = some (r, V')) : Met l yX8_turned (mw yX8_turned cX8_turned 5 (some .int)) { frames := 2, cells := 0, slots := 0, locals := 50 } (PreM D cy ad Kc S V [.ref (ad o), .int a1]) (QI D cy ad A r S V') 0 0 A := by
  refine ct_go C0 (own := RX8) rfl (by decide) rfl ?_
  intro p e s m below meth c ls H locs X hr hlocks hnm hl w
  have hx := X.1.1
  have hb := X.1.2.1
  have hown := X.2.1
  have hts := X.2.2.1
  have hl : lv_has ls 5 [(0, .ref (ad o)), (1, .int a1)] := hl
  obtain ⟨G, hG⟩ : ∃ G : Nat → Vt → List (Nat × Value) → List Value → Prop, G = fun pc V lv st => ∀ (H : Heap) (locs : List Loc) (ls : Array Slot), Wd D cy ad A s.heap S V H locs → lv_has ls 5 lv → W p l e { frames := 2, cells := 0, slots := 0, locals := 50 } s m ([.ref (ad o), .int a1] : List Value).toArray below meth c H locs 0 0 (MQ below (QI D cy ad A r S V') ([.ref (ad o), .int a1] : List Value).toArray s 0 0 A) (F0 m pc ls st) := ⟨_, rfl⟩
  have L11 : ∀ (n11 : Nat) (V : Vt) (v1 : Int32) (v2 : Int32) (v3 : Int32), f_X8_turned_11 N S o n11 V v1 v2 v3 = some (r, V') → G 11 V [(0, .ref (ad o)), (1, .int v1), (2, .int v2), (3, .int v3)] [] := by
    intro n11
    induction n11 with
    | zero => intro V v1 v2 v3 h; rw [f_X8_turned_11] at h; cases h
    | succ n11 ih11 =>
      have L22 : ∀ (n22 : Nat) (V : Vt) (v1 : Int32) (v2 : Int32) (v3 : Int32) (v4 : Int32), f_X8_turned_22 N S o (f_X8_turned_11 N S o n11) n22 V v1 v2 v3 v4 = some (r, V') → G 22 V [(0, .ref (ad o)), (1, .int v1), (2, .int v2), (3, .int v3), (4, .int v4)] [] := by
        intro n22
        induction n22 with
        | zero => intro V v1 v2 v3 v4 h; rw [f_X8_turned_22] at h; cases h
        | succ n22 ih22 =>
          have B58 : ∀ (V : Vt) (v1 : Int32) (v2 : Int32) (v3 : Int32) (v4 : Int32), f_X8_turned_58 N S o (f_X8_turned_22 N S o (f_X8_turned_11 N S o n11) n22) V v1 v2 v3 v4 = some (r, V') → G 58 V [(0, .ref (ad o)), (1, .int v1), (2, .int v2), (3, .int v3), (4, .int v4)] [] := by
            intro V v1 v2 v3 v4 h
            rw [hG]
            intro H locs ls w hl
            rw [f_X8_turned_58] at h
            obtain ⟨x18, ex18⟩ : ∃ y : Int32, y = v4 + (1 : Int32) := ⟨_, rfl⟩
            replace h := bdi h _ ex18
            refine lv_iinc (v := x18) (lv' := [(4, .int x18), (0, .ref (ad o)), (1, .int v1), (2, .int v2), (3, .int v3)]) hx hb dX8_turned_58 hl (k := 4) rfl (by rw [ex18]; rfl) (by decide) rfl (fun ls hl => ?_)
            refine lv_goto (tgt := 22) hx hb dX8_turned_61 (by decide) ?_
            have g := ih22 V v1 v2 v3 x18 h
            rw [hG] at g
            exact g H locs ls w (lv_sub hl [1, 2, 3, 4, 0] rfl)
          intro V v1 v2 v3 v4 h
          rw [hG]
          intro H locs ls w hl
          rw [f_X8_turned_22] at h
          refine lv_iload hx hb dX8_turned_22 (lv_at hl 4 rfl) ?_
          refine lv_bipush (v := 25) hx hb dX8_turned_24 (by decide) ?_
          refine lv_icmp_ge (tgt := 64) hx hb dX8_turned_26 (by decide) (fun c12 => ?_) (fun c12 => ?_)
          · replace h := ifT h c12
            obtain ⟨x13, ex13⟩ : ∃ y : Int32, y = v3 + (1 : Int32) := ⟨_, rfl⟩
            replace h := bdi h _ ex13
            refine lv_iinc (v := x13) (lv' := [(3, .int x13), (0, .ref (ad o)), (1, .int v1), (2, .int v2), (4, .int v4)]) hx hb dX8_turned_64 hl (k := 3) rfl (by rw [ex13]; rfl) (by decide) rfl (fun ls hl => ?_)
            refine lv_goto (tgt := 11) hx hb dX8_turned_67 (by decide) ?_
            have g := ih11 V v1 v2 x13 h
            rw [hG] at g
            exact g H locs ls w (lv_sub hl [1, 2, 3, 0] rfl)
          · replace h := ifF h c12
            refine lv_aload_n hx hb dX8_turned_29 rfl (lv_at hl 0 rfl) ?_
            refine m_get X w o (shn hs 0 rfl) (shk hs 0 rfl : S.2.1 o = 8) ci8 0 (by decide) (fvR (shk hs 0 rfl : S.2.1 o = 8) rfl (shq hs 0 0 rfl rfl : S.2.2.2.1 o 0 = (o + 1) + 1)) rfl fl_X8_12 dX8_turned_30 ?_
            refine lv_iload_n hx hb dX8_turned_33 rfl (lv_at hl 3 rfl) ?_
            refine lv_iload hx hb dX8_turned_34 (lv_at hl 4 rfl) ?_
            obtain ⟨r14, V16, q15, h⟩ := obi h
            refine m_ci (m_rV (As := [.int v3, .int v4]) (rest := []) X w hl mi_X0_isEvenTurned ml_X8_215 (o + 1) (shn hs 1 rfl) (shk hs 1 rfl : S.2.1 (o + 1) = 0) rfl (c_X0_isEvenTurned l D cy ad A Kc C0 N S V (o + 1) (sb_8_1 hs) v3 v4 r14 V16 q15) ⟨⟨rfl, rfl, Nat.le_of_ble_eq_true rfl, Nat.le_of_ble_eq_true rfl⟩, Nat.le_of_ble_eq_true rfl, Nat.le_of_ble_eq_true rfl⟩ rfl rfl (Nat.le_of_ble_eq_true rfl) dX8_turned_36) w (fun H locs w => ?_)
            refine lv_if_eq (tgt := 58) hx hb dX8_turned_39 (by decide) (fun c17 => ?_) (fun c17 => ?_)
            · replace h := ifT h c17
              have g := B58 V16 v1 v2 v3 v4 h
              rw [hG] at g
              exact g H locs ls w (lv_sub hl [0, 1, 2, 3, 4] rfl)
            · replace h := ifF h c17
              refine lv_iload_n hx hb dX8_turned_42 rfl (lv_at hl 2 rfl) ?_
              refine lv_iload_n hx hb dX8_turned_43 rfl (lv_at hl 1 rfl) ?_
              refine lv_icmp_ne (tgt := 55) hx hb dX8_turned_44 (by decide) (fun c19 => ?_) (fun c19 => ?_)
              · replace h := ifF h c19
                obtain ⟨x20, ex20⟩ : ∃ y : Int32, y = v2 + (1 : Int32) := ⟨_, rfl⟩
                replace h := bdi h _ ex20
                refine lv_iinc (v := x20) (lv' := [(2, .int x20), (0, .ref (ad o)), (1, .int v1), (3, .int v3), (4, .int v4)]) hx hb dX8_turned_55 hl (k := 2) rfl (by rw [ex20]; rfl) (by decide) rfl (fun ls hl => ?_)
                have g := B58 V16 v1 x20 v3 v4 h
                rw [hG] at g
                exact g H locs ls w (lv_sub hl [1, 2, 0, 3, 4] rfl)
              · replace h := ifT h c19
                refine lv_bipush (v := 100) hx hb dX8_turned_47 (by decide) ?_
                refine lv_iload_n hx hb dX8_turned_49 rfl (lv_at hl 3 rfl) ?_
                refine lv_imul hx hb dX8_turned_50 ?_
                refine lv_iload hx hb dX8_turned_51 (lv_at hl 4 rfl) ?_
                refine lv_iadd hx hb dX8_turned_53 ?_
                obtain ⟨rfl, rfl⟩ := reti h
                exact m_ri X w hr hlocks dX8_turned_54
      intro V v1 v2 v3 h
      rw [hG]
      intro H locs ls w hl
      rw [f_X8_turned_11] at h
      refine lv_iload_n hx hb dX8_turned_11 rfl (lv_at hl 3 rfl) ?_
      refine lv_bipush (v := 25) hx hb dX8_turned_12 (by decide) ?_
      refine lv_icmp_ge (tgt := 70) hx hb dX8_turned_14 (by decide) (fun c9 => ?_) (fun c9 => ?_)
      · replace h := ifT h c9
        refine lv_iload_n hx hb dX8_turned_70 rfl (lv_at hl 1 rfl) ?_
        refine lv_iconst (v := (-1)) hx hb dX8_turned_71 (by decide) ?_
        refine lv_icmp_ne (tgt := 79) hx hb dX8_turned_72 (by decide) (fun c10 => ?_) (fun c10 => ?_)
        · replace h := ifF h c10
          refine lv_iconst (v := (-1)) hx hb dX8_turned_79 (by decide) ?_
          obtain ⟨rfl, rfl⟩ := reti h
          exact m_ri X w hr hlocks dX8_turned_80
        · replace h := ifT h c10
          refine lv_iload_n hx hb dX8_turned_75 rfl (lv_at hl 2 rfl) ?_
          refine lv_goto (tgt := 80) hx hb dX8_turned_76 (by decide) ?_
          obtain ⟨rfl, rfl⟩ := reti h
          exact m_ri X w hr hlocks dX8_turned_80
      · replace h := ifF h c9
        refine lv_iload_n hx hb dX8_turned_17 rfl (lv_at hl 3 rfl) ?_
        refine lv_iconst (v := 1) hx hb dX8_turned_18 (by decide) ?_
        refine lv_iadd hx hb dX8_turned_19 ?_
        refine lv_topi (fun x11 ex11 => ?_)
        replace h := bdi h _ ex11
        refine lv_istore (lv' := [(4, .int x11), (0, .ref (ad o)), (1, .int v1), (2, .int v2), (3, .int v3)]) hx hb dX8_turned_20 hl (by decide) rfl (fun ls hl => ?_)
        have g := L22 N V v1 v2 v3 x11 h
        rw [hG] at g
        exact g H locs ls w (lv_sub hl [1, 2, 3, 4, 0] rfl)
  rw [f_X8_turned] at h
  refine lv_iload_n hx hb dX8_turned_0 rfl (lv_at hl 1 rfl) ?_
  refine lv_iconst (v := (-1)) hx hb dX8_turned_1 (by decide) ?_
  refine lv_icmp_ge (tgt := 7) hx hb dX8_turned_2 (by decide) (fun c8 => ?_) (fun c8 => ?_)
  · replace h := ifT h c8
    refine lv_iconst (v := 0) hx hb dX8_turned_7 (by decide) ?_
    refine lv_istore_n (lv' := [(2, .int (0 : Int32)), (0, .ref (ad o)), (1, .int a1)]) hx hb dX8_turned_8 rfl hl (by decide) rfl (fun ls hl => ?_)
    refine lv_iconst (v := 0) hx hb dX8_turned_9 (by decide) ?_
    refine lv_istore_n (lv' := [(3, .int (0 : Int32)), (2, .int (0 : Int32)), (0, .ref (ad o)), (1, .int a1)]) hx hb dX8_turned_10 rfl hl (by decide) rfl (fun ls hl => ?_)
    have g := L11 N V a1 (0 : Int32) (0 : Int32) h
    rw [hG] at g
    exact g H locs ls w (lv_sub hl [2, 3, 1, 0] rfl)
  · replace h := ifF h c8
    refine lv_iconst (v := (-1)) hx hb dX8_turned_5 (by decide) ?_
    obtain ⟨rfl, rfl⟩ := reti h
    exact m_ri X w hr hlocks dX8_turned_6
def f_X8_drawn_33 (N : Nat) (S : St) (V : Vt) (o : Nat) (v1 : Int32) (v2 : Int32) : Option Int32 := if v2 = (1 : Int32) then ob1 (f_X0_handOf N S V (o + 22) v1) (fun r9 => some r9) else some (-1 : Int32)
def f_X8_drawn (N : Nat) (S : St) (V : Vt) (o : Nat) (a1 : Int32) (a2 : Int32) : Option Int32 := if (V.1 (o + 22) 9) = 0 then some (-1 : Int32) else if a2 = 0 then ob1 (f_X8_isCell N a1) (fun r11 => if r11 = 0 then f_X8_drawn_33 N S V o a1 a2 else ck a1 25 (some (V.2.1 (o + 23) a1.toNatClampNeg))) else f_X8_drawn_33 N S V o a1 a2
set_option maxHeartbeats 4000000 in
set_option maxRecDepth 100000 in
theorem c_X8_drawn (l : Launch) (D : va_G) (cy : Nat → ClassId) (ad : Nat → Nat) (A : Nat → Prop) (Kc : State → Prop) (C0 : Cx ad A Kc) (N : Nat) (S : St) (V : Vt) (o : Nat) (hs : shp S o t8) (a1 : Int32) (a2 : Int32) (r : Int32) (h : f_X8_drawn N S V o a1 a2 = some r) : Met l yX8_drawn (mw yX8_drawn cX8_drawn 3 (some .int)) { frames := 2, cells := 0, slots := 0, locals := 42 } (PreM D cy ad Kc S V [.ref (ad o), .int a1, .int a2]) (QI D cy ad A r S V) 0 0 A := by
  refine ct_go C0 (own := RX8) rfl (by decide) rfl ?_
  intro p e s m below meth c ls H locs X hr hlocks hnm hl w
  have hx := X.1.1
  have hb := X.1.2.1
  have hown := X.2.1
  have hts := X.2.2.1
  have hl : lv_has ls 3 [(0, .ref (ad o)), (1, .int a1), (2, .int a2)] := hl
  obtain ⟨G, hG⟩ : ∃ G : Nat → Vt → List (Nat × Value) → List Value → Prop, G = fun pc V lv st => ∀ (H : Heap) (locs : List Loc) (ls : Array Slot), Wd D cy ad A s.heap S V H locs → lv_has ls 3 lv → W p l e { frames := 2, cells := 0, slots := 0, locals := 42 } s m ([.ref (ad o), .int a1, .int a2] : List Value).toArray below meth c H locs 0 0 (MQ below (QI D cy ad A r S V) ([.ref (ad o), .int a1, .int a2] : List Value).toArray s 0 0 A) (F0 m pc ls st) := ⟨_, rfl⟩
  have B33 : ∀ (v1 : Int32) (v2 : Int32), f_X8_drawn_33 N S V o v1 v2 = some r → G 33 V [(0, .ref (ad o)), (1, .int v1), (2, .int v2)] [] := by
    intro v1 v2 h
    rw [hG]
    intro H locs ls w hl
    rw [f_X8_drawn_33] at h
    refine lv_iload_n hx hb dX8_drawn_33 rfl (lv_at hl 2 rfl) ?_
    refine lv_iconst (v := 1) hx hb dX8_drawn_34 (by decide) ?_
    refine lv_icmp_ne (tgt := 49) hx hb dX8_drawn_35 (by decide) (fun c8 => ?_) (fun c8 => ?_)
    · replace h := ifF h c8
      refine lv_iconst (v := (-1)) hx hb dX8_drawn_49 (by decide) ?_
      obtain rfl := Option.some.inj h
      exact m_ri X w hr hlocks dX8_drawn_50
    · replace h := ifT h c8
      refine lv_aload_n hx hb dX8_drawn_38 rfl (lv_at hl 0 rfl) ?_
      refine m_get X w o (shn hs 0 rfl) (shk hs 0 rfl : S.2.1 o = 8) ci8 3 (by decide) (fvR (shk hs 0 rfl : S.2.1 o = 8) rfl (shq hs 0 3 rfl rfl : S.2.2.2.1 o 3 = (o + 22) + 1)) rfl fl_X8_23 dX8_drawn_39 ?_
      refine lv_iload_n hx hb dX8_drawn_42 rfl (lv_at hl 1 rfl) ?_
      obtain ⟨r9, q10, h⟩ := ob1i h
      refine m_ci (m_rV (As := [.int v1]) (rest := []) X w hl mi_X0_handOf ml_X8_150 (o + 22) (shn hs 22 rfl) (shk hs 22 rfl : S.2.1 (o + 22) = 0) rfl (c_X0_handOf l D cy ad A Kc C0 N S V (o + 22) (sb_8_22 hs) v1 r9 q10) ⟨⟨rfl, rfl, Nat.le_of_ble_eq_true rfl, Nat.le_of_ble_eq_true rfl⟩, Nat.le_of_ble_eq_true rfl, Nat.le_of_ble_eq_true rfl⟩ rfl rfl (Nat.le_of_ble_eq_true rfl) dX8_drawn_43) w (fun H locs w => ?_)
      refine lv_goto (tgt := 50) hx hb dX8_drawn_46 (by decide) ?_
      obtain rfl := Option.some.inj h
      exact m_ri X w hr hlocks dX8_drawn_50
  rw [f_X8_drawn] at h
  refine lv_aload_n hx hb dX8_drawn_0 rfl (lv_at hl 0 rfl) ?_
  refine m_get X w o (shn hs 0 rfl) (shk hs 0 rfl : S.2.1 o = 8) ci8 3 (by decide) (fvR (shk hs 0 rfl : S.2.1 o = 8) rfl (shq hs 0 3 rfl rfl : S.2.2.2.1 o 3 = (o + 22) + 1)) rfl fl_X8_23 dX8_drawn_1 ?_
  refine m_getN X w (o + 22) (shn hs 22 rfl) (shk hs 22 rfl : S.2.1 (o + 22) = 0) ci0 9 (by decide) (fvI (shk hs 22 rfl : S.2.1 (o + 22) = 0) rfl) rfl nf_X8_138 dX8_drawn_4 ?_
  refine lv_if_ne (tgt := 12) hx hb dX8_drawn_7 (by decide) (fun c6 => ?_) (fun c6 => ?_)
  · replace h := ifF h c6
    refine lv_iload_n hx hb dX8_drawn_12 rfl (lv_at hl 2 rfl) ?_
    refine lv_if_ne (tgt := 33) hx hb dX8_drawn_13 (by decide) (fun c7 => ?_) (fun c7 => ?_)
    · replace h := ifF h c7
      have g := B33 a1 a2 h
      rw [hG] at g
      exact g H locs ls w (lv_sub hl [0, 1, 2] rfl)
    · replace h := ifT h c7
      refine lv_iload_n hx hb dX8_drawn_16 rfl (lv_at hl 1 rfl) ?_
      obtain ⟨r11, q12, h⟩ := ob1i h
      refine m_ci (m_rS (As := [.int a1]) (rest := []) X w hl mi_X8_isCell ml_X8_89 (c_X8_isCell l D cy ad A Kc C0 N S V a1 r11 q12) ⟨⟨rfl, rfl, Nat.le_of_ble_eq_true rfl, Nat.le_of_ble_eq_true rfl⟩, Nat.le_of_ble_eq_true rfl, Nat.le_of_ble_eq_true rfl⟩ rfl rfl (Nat.le_of_ble_eq_true rfl) dX8_drawn_17) w (fun H locs w => ?_)
      refine lv_if_eq (tgt := 33) hx hb dX8_drawn_20 (by decide) (fun c13 => ?_) (fun c13 => ?_)
      · replace h := ifT h c13
        have g := B33 a1 a2 h
        rw [hG] at g
        exact g H locs ls w (lv_sub hl [0, 1, 2] rfl)
      · replace h := ifF h c13
        refine lv_aload_n hx hb dX8_drawn_23 rfl (lv_at hl 0 rfl) ?_
        refine m_get X w o (shn hs 0 rfl) (shk hs 0 rfl : S.2.1 o = 8) ci8 3 (by decide) (fvR (shk hs 0 rfl : S.2.1 o = 8) rfl (shq hs 0 3 rfl rfl : S.2.2.2.1 o 3 = (o + 22) + 1)) rfl fl_X8_23 dX8_drawn_24 ?_
        refine m_getN X w (o + 22) (shn hs 22 rfl) (shk hs 22 rfl : S.2.1 (o + 22) = 0) ci0 0 (by decide) (fvR (shk hs 22 rfl : S.2.1 (o + 22) = 0) rfl (shq hs 22 0 rfl rfl : S.2.2.2.1 (o + 22) 0 = (o + 23) + 1)) rfl nf_X8_101 dX8_drawn_27 ?_
        refine lv_iload_n hx hb dX8_drawn_30 rfl (lv_at hl 1 rfl) ?_
        obtain ⟨g14, h⟩ := cki h
        refine m_iald X w (o + 23) (shn hs 23 rfl) (shk hs 23 rfl : S.2.1 (o + 23) = 11) (shz hs 23 rfl : S.2.2.1 (o + 23) = 25) g14 dX8_drawn_31 ?_
        obtain rfl := Option.some.inj h
        exact m_ri X w hr hlocks dX8_drawn_32
  · replace h := ifT h c6
    refine lv_iconst (v := (-1)) hx hb dX8_drawn_10 (by decide) ?_
    obtain rfl := Option.some.inj h
    exact m_ri X w hr hlocks dX8_drawn_11
def f_X8_fillOrderWorths_98 (N : Nat) (S : St) (o : Nat) : Nat → Vt → Int32 → Option Vt
  | 0, _, _ => none
  | n + 1, V, v3 => if (5 : Int32) ≤ v3 then some V else ob1 (f_X0_handOf N S V (o + 1) v3) (fun r35 => ck ((38 : Int32) + v3) 43 (bd (sA V (o + 61) ((38 : Int32) + v3).toNatClampNeg r35) (fun V38 => bd (v3 + (1 : Int32)) (fun x39 => (f_X8_fillOrderWorths_98 N S o n) V38 x39))))
def f_X8_fillOrderWorths_49 (N : Nat) (S : St) (o : Nat) : Nat → Vt → Int32 → Option Vt
  | 0, _, _ => none
  | n + 1, V, v3 => if (5 : Int32) ≤ v3 then f_X8_fillOrderWorths_98 N S o N V (0 : Int32) else ob1 (f_X0_gap N S V (o + 1) (0 : Int32) v3) (fun r40 => ck ((28 : Int32) + v3) 43 (bd (sA V (o + 61) ((28 : Int32) + v3).toNatClampNeg r40) (fun V43 => ob1 (f_X0_gap N S V43 (o + 1) (1 : Int32) v3) (fun r44 => ck ((33 : Int32) + v3) 43 (bd (sA V43 (o + 61) ((33 : Int32) + v3).toNatClampNeg r44) (fun V47 => bd (v3 + (1 : Int32)) (fun x48 => (f_X8_fillOrderWorths_49 N S o n) V47 x48)))))))
def f_X8_fillOrderWorths (N : Nat) (S : St) (V : Vt) (o : Nat) (a1 : Int32) (a2 : Int32) : Option Vt := ck (0 : Int32) 3 (ck (0 : Int32) 43 (bd (sA V (o + 61) (0 : Int32).toNatClampNeg (V.2.1 (o + 7) (0 : Int32).toNatClampNeg)) (fun V26 => ck (1 : Int32) 43 (bd (sA V26 (o + 61) (1 : Int32).toNatClampNeg a1) (fun V28 => ck (2 : Int32) 43 (bd (sA V28 (o + 61) (2 : Int32).toNatClampNeg a2) (fun V30 => cg (cpB (0 : Int32) (3 : Int32) (25 : Int32) 25 43) (bd (sC V30 (o + 61) (va_cpy (V30.2.1 (o + 2)) (V30.2.1 (o + 61)) (0 : Int32).toNatClampNeg (3 : Int32).toNatClampNeg (25 : Int32).toNatClampNeg)) (fun V32 => f_X8_fillOrderWorths_49 N S o N V32 (0 : Int32))))))))))
set_option maxHeartbeats 4000000 in
set_option maxRecDepth 100000 in
theorem c_X8_fillOrderWorths (l : Launch) (D : va_G) (cy : Nat → ClassId) (ad : Nat → Nat) (A : Nat → Prop) (Kc : State → Prop) (C0 : Cx ad A Kc) (N : Nat) (S : St) (V : Vt) (o : Nat) (hs : shp S o t8) (a1 : Int32) (a2 : Int32) (V' : Vt) (h : f_X8_fillOrderWorths N S V o a1 a2 = some V') : Met l yX8_fillOrderWorths (mw yX8_fillOrderWorths cX8_fillOrderWorths 4 none) { frames := 2, cells := 0, slots := 0, locals := 42 } (PreM D cy ad Kc S V [.ref (ad o), .int a1, .int a2]) (QV D cy ad A S V') 0 0 A := by
  refine ct_go C0 (own := RX8) rfl (by decide) rfl ?_
  intro p e s m below meth c ls H locs X hr hlocks hnm hl w
  have hx := X.1.1
  have hb := X.1.2.1
  have hown := X.2.1
  have hts := X.2.2.1
  have hl : lv_has ls 4 [(0, .ref (ad o)), (1, .int a1), (2, .int a2)] := hl
  obtain ⟨G, hG⟩ : ∃ G : Nat → Vt → List (Nat × Value) → List Value → Prop, G = fun pc V lv st => ∀ (H : Heap) (locs : List Loc) (ls : Array Slot), Wd D cy ad A s.heap S V H locs → lv_has ls 4 lv → W p l e { frames := 2, cells := 0, slots := 0, locals := 42 } s m ([.ref (ad o), .int a1, .int a2] : List Value).toArray below meth c H locs 0 0 (MQ below (QV D cy ad A S V') ([.ref (ad o), .int a1, .int a2] : List Value).toArray s 0 0 A) (F0 m pc ls st) := ⟨_, rfl⟩
  have L98 : ∀ (n98 : Nat) (V : Vt) (v3 : Int32), f_X8_fillOrderWorths_98 N S o n98 V v3 = some V' → G 98 V [(0, .ref (ad o)), (3, .int v3)] [] := by
    intro n98
    induction n98 with
    | zero => intro V v3 h; rw [f_X8_fillOrderWorths_98] at h; cases h
    | succ n98 ih98 =>
      intro V v3 h
      rw [hG]
      intro H locs ls w hl
      rw [f_X8_fillOrderWorths_98] at h
      refine lv_iload_n hx hb dX8_fillOrderWorths_98 rfl (lv_at hl 1 rfl) ?_
      refine lv_iconst (v := 5) hx hb dX8_fillOrderWorths_99 (by decide) ?_
      refine lv_icmp_ge (tgt := 126) hx hb dX8_fillOrderWorths_100 (by decide) (fun c34 => ?_) (fun c34 => ?_)
      · replace h := ifT h c34
        obtain rfl := Option.some.inj h
        exact m_rv X w hr hlocks dX8_fillOrderWorths_126
      · replace h := ifF h c34
        refine lv_aload_n hx hb dX8_fillOrderWorths_103 rfl (lv_at hl 0 rfl) ?_
        refine m_get X w o (shn hs 0 rfl) (shk hs 0 rfl : S.2.1 o = 8) ci8 12 (by decide) (fvR (shk hs 0 rfl : S.2.1 o = 8) rfl (shq hs 0 12 rfl rfl : S.2.2.2.1 o 12 = (o + 61) + 1)) rfl fl_X8_75 dX8_fillOrderWorths_104 ?_
        refine lv_bipush (v := 38) hx hb dX8_fillOrderWorths_107 (by decide) ?_
        refine lv_iload_n hx hb dX8_fillOrderWorths_109 rfl (lv_at hl 1 rfl) ?_
        refine lv_iadd hx hb dX8_fillOrderWorths_110 ?_
        refine lv_aload_n hx hb dX8_fillOrderWorths_111 rfl (lv_at hl 0 rfl) ?_
        refine m_get X w o (shn hs 0 rfl) (shk hs 0 rfl : S.2.1 o = 8) ci8 0 (by decide) (fvR (shk hs 0 rfl : S.2.1 o = 8) rfl (shq hs 0 0 rfl rfl : S.2.2.2.1 o 0 = (o + 1) + 1)) rfl fl_X8_12 dX8_fillOrderWorths_112 ?_
        refine lv_iload_n hx hb dX8_fillOrderWorths_115 rfl (lv_at hl 1 rfl) ?_
        obtain ⟨r35, q36, h⟩ := ob1i h
        refine m_ci (m_rV (As := [.int v3]) (rest := [.int ((38 : Int32) + v3), .ref (ad (o + 61))]) X w hl mi_X0_handOf ml_X8_150 (o + 1) (shn hs 1 rfl) (shk hs 1 rfl : S.2.1 (o + 1) = 0) rfl (c_X0_handOf l D cy ad A Kc C0 N S V (o + 1) (sb_8_1 hs) v3 r35 q36) ⟨⟨rfl, rfl, Nat.le_of_ble_eq_true rfl, Nat.le_of_ble_eq_true rfl⟩, Nat.le_of_ble_eq_true rfl, Nat.le_of_ble_eq_true rfl⟩ rfl rfl (Nat.le_of_ble_eq_true rfl) dX8_fillOrderWorths_116) w (fun H locs w => ?_)
        obtain ⟨g37, h⟩ := cki h
        refine m_iast X w (o + 61) (shn hs 61 rfl) (shk hs 61 rfl : S.2.1 (o + 61) = 11) (shz hs 61 rfl : S.2.2.1 (o + 61) = 43) g37 dX8_fillOrderWorths_119 (fun V38 H locs eV38 w => ?_)
        replace h := bdi h _ eV38
        obtain ⟨x39, ex39⟩ : ∃ y : Int32, y = v3 + (1 : Int32) := ⟨_, rfl⟩
        replace h := bdi h _ ex39
        refine lv_iinc (v := x39) (lv' := [(3, .int x39), (0, .ref (ad o))]) hx hb dX8_fillOrderWorths_120 hl (k := 1) rfl (by rw [ex39]; rfl) (by decide) rfl (fun ls hl => ?_)
        refine lv_goto (tgt := 98) hx hb dX8_fillOrderWorths_123 (by decide) ?_
        have g := ih98 V38 x39 h
        rw [hG] at g
        exact g H locs ls w (lv_sub hl [1, 0] rfl)
  have L49 : ∀ (n49 : Nat) (V : Vt) (v3 : Int32), f_X8_fillOrderWorths_49 N S o n49 V v3 = some V' → G 49 V [(0, .ref (ad o)), (3, .int v3)] [] := by
    intro n49
    induction n49 with
    | zero => intro V v3 h; rw [f_X8_fillOrderWorths_49] at h; cases h
    | succ n49 ih49 =>
      intro V v3 h
      rw [hG]
      intro H locs ls w hl
      rw [f_X8_fillOrderWorths_49] at h
      refine lv_iload_n hx hb dX8_fillOrderWorths_49 rfl (lv_at hl 1 rfl) ?_
      refine lv_iconst (v := 5) hx hb dX8_fillOrderWorths_50 (by decide) ?_
      refine lv_icmp_ge (tgt := 96) hx hb dX8_fillOrderWorths_51 (by decide) (fun c33 => ?_) (fun c33 => ?_)
      · replace h := ifT h c33
        refine lv_iconst (v := 0) hx hb dX8_fillOrderWorths_96 (by decide) ?_
        refine lv_istore_n (lv' := [(3, .int (0 : Int32)), (0, .ref (ad o))]) hx hb dX8_fillOrderWorths_97 rfl hl (by decide) rfl (fun ls hl => ?_)
        have g := L98 N V (0 : Int32) h
        rw [hG] at g
        exact g H locs ls w (lv_sub hl [1, 0] rfl)
      · replace h := ifF h c33
        refine lv_aload_n hx hb dX8_fillOrderWorths_54 rfl (lv_at hl 0 rfl) ?_
        refine m_get X w o (shn hs 0 rfl) (shk hs 0 rfl : S.2.1 o = 8) ci8 12 (by decide) (fvR (shk hs 0 rfl : S.2.1 o = 8) rfl (shq hs 0 12 rfl rfl : S.2.2.2.1 o 12 = (o + 61) + 1)) rfl fl_X8_75 dX8_fillOrderWorths_55 ?_
        refine lv_bipush (v := 28) hx hb dX8_fillOrderWorths_58 (by decide) ?_
        refine lv_iload_n hx hb dX8_fillOrderWorths_60 rfl (lv_at hl 1 rfl) ?_
        refine lv_iadd hx hb dX8_fillOrderWorths_61 ?_
        refine lv_aload_n hx hb dX8_fillOrderWorths_62 rfl (lv_at hl 0 rfl) ?_
        refine m_get X w o (shn hs 0 rfl) (shk hs 0 rfl : S.2.1 o = 8) ci8 0 (by decide) (fvR (shk hs 0 rfl : S.2.1 o = 8) rfl (shq hs 0 0 rfl rfl : S.2.2.2.1 o 0 = (o + 1) + 1)) rfl fl_X8_12 dX8_fillOrderWorths_63 ?_
        refine lv_iconst (v := 0) hx hb dX8_fillOrderWorths_66 (by decide) ?_
        refine lv_iload_n hx hb dX8_fillOrderWorths_67 rfl (lv_at hl 1 rfl) ?_
        obtain ⟨r40, q41, h⟩ := ob1i h
        refine m_ci (m_rV (As := [.int (0 : Int32), .int v3]) (rest := [.int ((28 : Int32) + v3), .ref (ad (o + 61))]) X w hl mi_X0_gap ml_X8_133 (o + 1) (shn hs 1 rfl) (shk hs 1 rfl : S.2.1 (o + 1) = 0) rfl (c_X0_gap l D cy ad A Kc C0 N S V (o + 1) (sb_8_1 hs) (0 : Int32) v3 r40 q41) ⟨⟨rfl, rfl, Nat.le_of_ble_eq_true rfl, Nat.le_of_ble_eq_true rfl⟩, Nat.le_of_ble_eq_true rfl, Nat.le_of_ble_eq_true rfl⟩ rfl rfl (Nat.le_of_ble_eq_true rfl) dX8_fillOrderWorths_68) w (fun H locs w => ?_)
        obtain ⟨g42, h⟩ := cki h
        refine m_iast X w (o + 61) (shn hs 61 rfl) (shk hs 61 rfl : S.2.1 (o + 61) = 11) (shz hs 61 rfl : S.2.2.1 (o + 61) = 43) g42 dX8_fillOrderWorths_71 (fun V43 H locs eV43 w => ?_)
        replace h := bdi h _ eV43
        refine lv_aload_n hx hb dX8_fillOrderWorths_72 rfl (lv_at hl 0 rfl) ?_
        refine m_get X w o (shn hs 0 rfl) (shk hs 0 rfl : S.2.1 o = 8) ci8 12 (by decide) (fvR (shk hs 0 rfl : S.2.1 o = 8) rfl (shq hs 0 12 rfl rfl : S.2.2.2.1 o 12 = (o + 61) + 1)) rfl fl_X8_75 dX8_fillOrderWorths_73 ?_
        refine lv_bipush (v := 33) hx hb dX8_fillOrderWorths_76 (by decide) ?_
        refine lv_iload_n hx hb dX8_fillOrderWorths_78 rfl (lv_at hl 1 rfl) ?_
        refine lv_iadd hx hb dX8_fillOrderWorths_79 ?_
        refine lv_aload_n hx hb dX8_fillOrderWorths_80 rfl (lv_at hl 0 rfl) ?_
        refine m_get X w o (shn hs 0 rfl) (shk hs 0 rfl : S.2.1 o = 8) ci8 0 (by decide) (fvR (shk hs 0 rfl : S.2.1 o = 8) rfl (shq hs 0 0 rfl rfl : S.2.2.2.1 o 0 = (o + 1) + 1)) rfl fl_X8_12 dX8_fillOrderWorths_81 ?_
        refine lv_iconst (v := 1) hx hb dX8_fillOrderWorths_84 (by decide) ?_
        refine lv_iload_n hx hb dX8_fillOrderWorths_85 rfl (lv_at hl 1 rfl) ?_
        obtain ⟨r44, q45, h⟩ := ob1i h
        refine m_ci (m_rV (As := [.int (1 : Int32), .int v3]) (rest := [.int ((33 : Int32) + v3), .ref (ad (o + 61))]) X w hl mi_X0_gap ml_X8_133 (o + 1) (shn hs 1 rfl) (shk hs 1 rfl : S.2.1 (o + 1) = 0) rfl (c_X0_gap l D cy ad A Kc C0 N S V43 (o + 1) (sb_8_1 hs) (1 : Int32) v3 r44 q45) ⟨⟨rfl, rfl, Nat.le_of_ble_eq_true rfl, Nat.le_of_ble_eq_true rfl⟩, Nat.le_of_ble_eq_true rfl, Nat.le_of_ble_eq_true rfl⟩ rfl rfl (Nat.le_of_ble_eq_true rfl) dX8_fillOrderWorths_86) w (fun H locs w => ?_)
        obtain ⟨g46, h⟩ := cki h
        refine m_iast X w (o + 61) (shn hs 61 rfl) (shk hs 61 rfl : S.2.1 (o + 61) = 11) (shz hs 61 rfl : S.2.2.1 (o + 61) = 43) g46 dX8_fillOrderWorths_89 (fun V47 H locs eV47 w => ?_)
        replace h := bdi h _ eV47
        obtain ⟨x48, ex48⟩ : ∃ y : Int32, y = v3 + (1 : Int32) := ⟨_, rfl⟩
        replace h := bdi h _ ex48
        refine lv_iinc (v := x48) (lv' := [(3, .int x48), (0, .ref (ad o))]) hx hb dX8_fillOrderWorths_90 hl (k := 1) rfl (by rw [ex48]; rfl) (by decide) rfl (fun ls hl => ?_)
        refine lv_goto (tgt := 49) hx hb dX8_fillOrderWorths_93 (by decide) ?_
        have g := ih49 V47 x48 h
        rw [hG] at g
        exact g H locs ls w (lv_sub hl [1, 0] rfl)
  rw [f_X8_fillOrderWorths] at h
  refine lv_aload_n hx hb dX8_fillOrderWorths_0 rfl (lv_at hl 0 rfl) ?_
  refine m_get X w o (shn hs 0 rfl) (shk hs 0 rfl : S.2.1 o = 8) ci8 12 (by decide) (fvR (shk hs 0 rfl : S.2.1 o = 8) rfl (shq hs 0 12 rfl rfl : S.2.2.2.1 o 12 = (o + 61) + 1)) rfl fl_X8_75 dX8_fillOrderWorths_1 ?_
  refine lv_iconst (v := 0) hx hb dX8_fillOrderWorths_4 (by decide) ?_
  refine lv_aload_n hx hb dX8_fillOrderWorths_5 rfl (lv_at hl 0 rfl) ?_
  refine m_get X w o (shn hs 0 rfl) (shk hs 0 rfl : S.2.1 o = 8) ci8 0 (by decide) (fvR (shk hs 0 rfl : S.2.1 o = 8) rfl (shq hs 0 0 rfl rfl : S.2.2.2.1 o 0 = (o + 1) + 1)) rfl fl_X8_12 dX8_fillOrderWorths_6 ?_
  refine m_getN X w (o + 1) (shn hs 1 rfl) (shk hs 1 rfl : S.2.1 (o + 1) = 0) ci0 5 (by decide) (fvR (shk hs 1 rfl : S.2.1 (o + 1) = 0) rfl (shq hs 1 5 rfl rfl : S.2.2.2.1 (o + 1) 5 = (o + 7) + 1)) rfl nf_X8_156 dX8_fillOrderWorths_9 ?_
  refine lv_iconst (v := 0) hx hb dX8_fillOrderWorths_12 (by decide) ?_
  obtain ⟨g24, h⟩ := cki h
  refine m_iald X w (o + 7) (shn hs 7 rfl) (shk hs 7 rfl : S.2.1 (o + 7) = 11) (shz hs 7 rfl : S.2.2.1 (o + 7) = 3) g24 dX8_fillOrderWorths_13 ?_
  obtain ⟨g25, h⟩ := cki h
  refine m_iast X w (o + 61) (shn hs 61 rfl) (shk hs 61 rfl : S.2.1 (o + 61) = 11) (shz hs 61 rfl : S.2.2.1 (o + 61) = 43) g25 dX8_fillOrderWorths_14 (fun V26 H locs eV26 w => ?_)
  replace h := bdi h _ eV26
  refine lv_aload_n hx hb dX8_fillOrderWorths_15 rfl (lv_at hl 0 rfl) ?_
  refine m_get X w o (shn hs 0 rfl) (shk hs 0 rfl : S.2.1 o = 8) ci8 12 (by decide) (fvR (shk hs 0 rfl : S.2.1 o = 8) rfl (shq hs 0 12 rfl rfl : S.2.2.2.1 o 12 = (o + 61) + 1)) rfl fl_X8_75 dX8_fillOrderWorths_16 ?_
  refine lv_iconst (v := 1) hx hb dX8_fillOrderWorths_19 (by decide) ?_
  refine lv_iload_n hx hb dX8_fillOrderWorths_20 rfl (lv_at hl 1 rfl) ?_
  obtain ⟨g27, h⟩ := cki h
  refine m_iast X w (o + 61) (shn hs 61 rfl) (shk hs 61 rfl : S.2.1 (o + 61) = 11) (shz hs 61 rfl : S.2.2.1 (o + 61) = 43) g27 dX8_fillOrderWorths_21 (fun V28 H locs eV28 w => ?_)
  replace h := bdi h _ eV28
  refine lv_aload_n hx hb dX8_fillOrderWorths_22 rfl (lv_at hl 0 rfl) ?_
  refine m_get X w o (shn hs 0 rfl) (shk hs 0 rfl : S.2.1 o = 8) ci8 12 (by decide) (fvR (shk hs 0 rfl : S.2.1 o = 8) rfl (shq hs 0 12 rfl rfl : S.2.2.2.1 o 12 = (o + 61) + 1)) rfl fl_X8_75 dX8_fillOrderWorths_23 ?_
  refine lv_iconst (v := 2) hx hb dX8_fillOrderWorths_26 (by decide) ?_
  refine lv_iload_n hx hb dX8_fillOrderWorths_27 rfl (lv_at hl 2 rfl) ?_
  obtain ⟨g29, h⟩ := cki h
  refine m_iast X w (o + 61) (shn hs 61 rfl) (shk hs 61 rfl : S.2.1 (o + 61) = 11) (shz hs 61 rfl : S.2.2.1 (o + 61) = 43) g29 dX8_fillOrderWorths_28 (fun V30 H locs eV30 w => ?_)
  replace h := bdi h _ eV30
  refine lv_aload_n hx hb dX8_fillOrderWorths_29 rfl (lv_at hl 0 rfl) ?_
  refine m_get X w o (shn hs 0 rfl) (shk hs 0 rfl : S.2.1 o = 8) ci8 0 (by decide) (fvR (shk hs 0 rfl : S.2.1 o = 8) rfl (shq hs 0 0 rfl rfl : S.2.2.2.1 o 0 = (o + 1) + 1)) rfl fl_X8_12 dX8_fillOrderWorths_30 ?_
  refine m_getN X w (o + 1) (shn hs 1 rfl) (shk hs 1 rfl : S.2.1 (o + 1) = 0) ci0 0 (by decide) (fvR (shk hs 1 rfl : S.2.1 (o + 1) = 0) rfl (shq hs 1 0 rfl rfl : S.2.2.2.1 (o + 1) 0 = (o + 2) + 1)) rfl nf_X8_101 dX8_fillOrderWorths_33 ?_
  refine lv_iconst (v := 0) hx hb dX8_fillOrderWorths_36 (by decide) ?_
  refine lv_aload_n hx hb dX8_fillOrderWorths_37 rfl (lv_at hl 0 rfl) ?_
  refine m_get X w o (shn hs 0 rfl) (shk hs 0 rfl : S.2.1 o = 8) ci8 12 (by decide) (fvR (shk hs 0 rfl : S.2.1 o = 8) rfl (shq hs 0 12 rfl rfl : S.2.2.2.1 o 12 = (o + 61) + 1)) rfl fl_X8_75 dX8_fillOrderWorths_38 ?_
  refine lv_iconst (v := 3) hx hb dX8_fillOrderWorths_41 (by decide) ?_
  refine lv_bipush (v := 25) hx hb dX8_fillOrderWorths_42 (by decide) ?_
  obtain ⟨g31, h⟩ := cgi h
  have g31 := cpB_of g31
  refine m_copy (rest := []) X w hl ml_X8_356 nat_copy sta_copy ini_copy (o + 2) (o + 61) (shn hs 2 rfl) (shn hs 61 rfl) (shk hs 2 rfl : S.2.1 (o + 2) = 11) (shk hs 61 rfl : S.2.1 (o + 61) = 11) (shz hs 2 rfl : S.2.2.1 (o + 2) = 25) (shz hs 61 rfl : S.2.2.1 (o + 61) = 43) g31.1 g31.2.1 g31.2.2.1 g31.2.2.2.1 g31.2.2.2.2 (Nat.le_of_ble_eq_true rfl) (Nat.le_of_ble_eq_true rfl) dX8_fillOrderWorths_44 (fun V32 H locs eV32 w => ?_)
  replace h := bdi h _ eV32
  refine lv_iconst (v := 0) hx hb dX8_fillOrderWorths_47 (by decide) ?_
  refine lv_istore_n (lv' := [(3, .int (0 : Int32)), (0, .ref (ad o)), (1, .int a1), (2, .int a2)]) hx hb dX8_fillOrderWorths_48 rfl hl (by decide) rfl (fun ls hl => ?_)
  have g := L49 N V32 (0 : Int32) h
  rw [hG] at g
  exact g H locs ls w (lv_sub hl [1, 0] rfl)
def f_X3_stepFrom_n_102 (N : Nat) (S : St) (o : Nat) (a1 : Nat) (V : Vt) (v3 : Int32) (v4 : Int32) (v5 : Int32) : Option (Int32 × Vt) := if v4 < 0 then some ((25 : Int32), V) else if (5 : Int32) ≤ v4 then some ((25 : Int32), V) else if v5 < 0 then some ((25 : Int32), V) else if v5 < (5 : Int32) then bd ((v4 * (5 : Int32)) + v5) (fun x34 => ck x34 25 (if (V.2.1 (a1 + 2) x34.toNatClampNeg) = (1 : Int32) then some (v3, V) else some (x34, V))) else some ((25 : Int32), V)
def f_X3_stepFrom_n (N : Nat) (S : St) (V : Vt) (o : Nat) (a1 : Nat) (a3 : Int32) : Option (Int32 × Vt) := ob (f_X6_lastTold_n N S V (o + 1) a1 (2 : Int32) a3 (-1 : Int32)) (fun r17 V19 => if r17 = (-2000000000 : Int32) then bd (a3 / (5 : Int32)) (fun x21 => bd (a3 - a3 / (5 : Int32) * (5 : Int32)) (fun x22 => ob (f_X6_lastTold_n N S V19 (o + 1) a1 (0 : Int32) a3 (-1 : Int32)) (fun r23 V25 => ob1 (f_X8_nearest N r23 (4 : Int32) (2 : Int32)) (fun r26 => if r26 = (1 : Int32) then bd (x21 + (1 : Int32)) (fun x29 => f_X3_stepFrom_n_102 N S o a1 V25 a3 x29 x22) else if r26 = (2 : Int32) then bd (x22 + (1 : Int32)) (fun x38 => f_X3_stepFrom_n_102 N S o a1 V25 a3 x21 x38) else if r26 = (3 : Int32) then bd (x21 + (-1 : Int32)) (fun x40 => f_X3_stepFrom_n_102 N S o a1 V25 a3 x40 x22) else if r26 = (4 : Int32) then bd (x22 + (-1 : Int32)) (fun x42 => f_X3_stepFrom_n_102 N S o a1 V25 a3 x21 x42) else some (a3, V25))))) else some (a3, V19))
set_option maxHeartbeats 4000000 in
set_option maxRecDepth 100000 in
theorem c_X3_stepFrom_n (l : Launch) (D : va_G) (cy : Nat → ClassId) (ad : Nat → Nat) (A : Nat → Prop) (Kc : State → Prop) (C0 : Cx ad A Kc) (N : Nat) (S : St) (V : Vt) (o : Nat) (hs : shp S o t3) (a1 : Nat) (hs_a1 : shp S a1 t0) (a3 : Int32) (r : Int32) (V' : Vt) (h : f_X3_stepFrom_n N S V o a1 a3 = some (r, V')) : Met l yX3_stepFrom (mw yX3_stepFrom cX3_stepFrom 7 (some .int)) { frames := 3, cells := 0, slots := 0, locals := 82 } (PreM D cy ad Kc S V [.ref (ad o), .ref (ad a1), .null, .int a3]) (QI D cy ad A r S V') 0 0 A := by
  refine ct_go C0 (own := RX3) rfl (by decide) rfl ?_
  intro p e s m below meth c ls H locs X hr hlocks hnm hl w
  have hx := X.1.1
  have hb := X.1.2.1
  have hown := X.2.1
  have hts := X.2.2.1
  have hl : lv_has ls 7 [(0, .ref (ad o)), (1, .ref (ad a1)), (2, .null), (3, .int a3)] := hl
  obtain ⟨G, hG⟩ : ∃ G : Nat → Vt → List (Nat × Value) → List Value → Prop, G = fun pc V lv st => ∀ (H : Heap) (locs : List Loc) (ls : Array Slot), Wd D cy ad A s.heap S V H locs → lv_has ls 7 lv → W p l e { frames := 3, cells := 0, slots := 0, locals := 82 } s m ([.ref (ad o), .ref (ad a1), .null, .int a3] : List Value).toArray below meth c H locs 0 0 (MQ below (QI D cy ad A r S V') ([.ref (ad o), .ref (ad a1), .null, .int a3] : List Value).toArray s 0 0 A) (F0 m pc ls st) := ⟨_, rfl⟩
  have B102 : ∀ (V : Vt) (v3 : Int32) (v4 : Int32) (v5 : Int32), f_X3_stepFrom_n_102 N S o a1 V v3 v4 v5 = some (r, V') → G 102 V [(1, .ref (ad a1)), (3, .int v3), (4, .int v4), (5, .int v5)] [] := by
    intro V v3 v4 v5 h
    rw [hG]
    intro H locs ls w hl
    rw [f_X3_stepFrom_n_102] at h
    refine lv_iload hx hb dX3_stepFrom_102 (lv_at hl 2 rfl) ?_
    refine lv_if_lt (tgt := 124) hx hb dX3_stepFrom_104 (by decide) (fun c30 => ?_) (fun c30 => ?_)
    · replace h := ifT h c30
      refine lv_bipush (v := 25) hx hb dX3_stepFrom_124 (by decide) ?_
      obtain ⟨rfl, rfl⟩ := reti h
      exact m_ri X w hr hlocks dX3_stepFrom_126
    · replace h := ifF h c30
      refine lv_iload hx hb dX3_stepFrom_107 (lv_at hl 2 rfl) ?_
      refine lv_iconst (v := 5) hx hb dX3_stepFrom_109 (by decide) ?_
      refine lv_icmp_ge (tgt := 124) hx hb dX3_stepFrom_110 (by decide) (fun c31 => ?_) (fun c31 => ?_)
      · replace h := ifT h c31
        refine lv_bipush (v := 25) hx hb dX3_stepFrom_124 (by decide) ?_
        obtain ⟨rfl, rfl⟩ := reti h
        exact m_ri X w hr hlocks dX3_stepFrom_126
      · replace h := ifF h c31
        refine lv_iload hx hb dX3_stepFrom_113 (lv_at hl 3 rfl) ?_
        refine lv_if_lt (tgt := 124) hx hb dX3_stepFrom_115 (by decide) (fun c32 => ?_) (fun c32 => ?_)
        · replace h := ifT h c32
          refine lv_bipush (v := 25) hx hb dX3_stepFrom_124 (by decide) ?_
          obtain ⟨rfl, rfl⟩ := reti h
          exact m_ri X w hr hlocks dX3_stepFrom_126
        · replace h := ifF h c32
          refine lv_iload hx hb dX3_stepFrom_118 (lv_at hl 3 rfl) ?_
          refine lv_iconst (v := 5) hx hb dX3_stepFrom_120 (by decide) ?_
          refine lv_icmp_lt (tgt := 127) hx hb dX3_stepFrom_121 (by decide) (fun c33 => ?_) (fun c33 => ?_)
          · replace h := ifT h c33
            refine lv_iload hx hb dX3_stepFrom_127 (lv_at hl 2 rfl) ?_
            refine lv_iconst (v := 5) hx hb dX3_stepFrom_129 (by decide) ?_
            refine lv_imul hx hb dX3_stepFrom_130 ?_
            refine lv_iload hx hb dX3_stepFrom_131 (lv_at hl 3 rfl) ?_
            refine lv_iadd hx hb dX3_stepFrom_133 ?_
            refine lv_topi (fun x34 ex34 => ?_)
            replace h := bdi h _ ex34
            refine lv_istore (lv' := [(6, .int x34), (1, .ref (ad a1)), (3, .int v3), (4, .int v4), (5, .int v5)]) hx hb dX3_stepFrom_134 hl (by decide) rfl (fun ls hl => ?_)
            refine lv_aload_n hx hb dX3_stepFrom_136 rfl (lv_at hl 1 rfl) ?_
            refine m_getN X w a1 (shn hs_a1 0 rfl) (shk hs_a1 0 rfl : S.2.1 a1 = 0) ci0 1 (by decide) (fvR (shk hs_a1 0 rfl : S.2.1 a1 = 0) rfl (shq hs_a1 0 1 rfl rfl : S.2.2.2.1 a1 1 = (a1 + 2) + 1)) rfl nf_X3_44 dX3_stepFrom_137 ?_
            refine lv_iload hx hb dX3_stepFrom_140 (lv_at hl 0 rfl) ?_
            obtain ⟨g35, h⟩ := cki h
            refine m_iald X w (a1 + 2) (shn hs_a1 2 rfl) (shk hs_a1 2 rfl : S.2.1 (a1 + 2) = 11) (shz hs_a1 2 rfl : S.2.2.1 (a1 + 2) = 25) g35 dX3_stepFrom_142 ?_
            refine lv_iconst (v := 1) hx hb dX3_stepFrom_143 (by decide) ?_
            refine lv_icmp_ne (tgt := 151) hx hb dX3_stepFrom_144 (by decide) (fun c36 => ?_) (fun c36 => ?_)
            · replace h := ifF h c36
              refine lv_iload hx hb dX3_stepFrom_151 (lv_at hl 0 rfl) ?_
              obtain ⟨rfl, rfl⟩ := reti h
              exact m_ri X w hr hlocks dX3_stepFrom_153
            · replace h := ifT h c36
              refine lv_iload_n hx hb dX3_stepFrom_147 rfl (lv_at hl 2 rfl) ?_
              refine lv_goto (tgt := 153) hx hb dX3_stepFrom_148 (by decide) ?_
              obtain ⟨rfl, rfl⟩ := reti h
              exact m_ri X w hr hlocks dX3_stepFrom_153
          · replace h := ifF h c33
            refine lv_bipush (v := 25) hx hb dX3_stepFrom_124 (by decide) ?_
            obtain ⟨rfl, rfl⟩ := reti h
            exact m_ri X w hr hlocks dX3_stepFrom_126
  rw [f_X3_stepFrom_n] at h
  refine lv_aload_n hx hb dX3_stepFrom_0 rfl (lv_at hl 0 rfl) ?_
  refine m_get X w o (shn hs 0 rfl) (shk hs 0 rfl : S.2.1 o = 3) ci3 0 (by decide) (fvR (shk hs 0 rfl : S.2.1 o = 3) rfl (shq hs 0 0 rfl rfl : S.2.2.2.1 o 0 = (o + 1) + 1)) rfl fl_X3_12 dX3_stepFrom_1 ?_
  refine lv_aload_n hx hb dX3_stepFrom_4 rfl (lv_at hl 1 rfl) ?_
  refine lv_aload_nN hx hb dX3_stepFrom_5 rfl (lv_at hl 2 rfl) ?_
  refine lv_iconst (v := 2) hx hb dX3_stepFrom_6 (by decide) ?_
  refine lv_iload_n hx hb dX3_stepFrom_7 rfl (lv_at hl 3 rfl) ?_
  refine lv_iconst (v := (-1)) hx hb dX3_stepFrom_8 (by decide) ?_
  obtain ⟨r17, V19, q18, h⟩ := obi h
  refine m_ci (m_rV (As := [.ref (ad a1), .null, .int (2 : Int32), .int a3, .int (-1 : Int32)]) (rest := []) X w hl mi_X6_lastTold ml_X3_35 (o + 1) (shn hs 1 rfl) (shk hs 1 rfl : S.2.1 (o + 1) = 6) rfl (c_X6_lastTold_n l D cy ad A Kc C0 N S V (o + 1) (sb_3_1 hs) a1 hs_a1 (2 : Int32) a3 (-1 : Int32) r17 V19 q18) ⟨⟨rfl, rfl, Nat.le_of_ble_eq_true rfl, Nat.le_of_ble_eq_true rfl⟩, Nat.le_of_ble_eq_true rfl, Nat.le_of_ble_eq_true rfl⟩ rfl rfl (Nat.le_of_ble_eq_true rfl) dX3_stepFrom_9) w (fun H locs w => ?_)
  refine lv_ldc (v := (-2000000000)) hx hb hown (hts _ kc_X3_39) dX3_stepFrom_12 ?_
  refine lv_icmp_eq (tgt := 19) hx hb dX3_stepFrom_14 (by decide) (fun c20 => ?_) (fun c20 => ?_)
  · replace h := ifT h c20
    refine lv_iload_n hx hb dX3_stepFrom_19 rfl (lv_at hl 3 rfl) ?_
    refine lv_iconst (v := 5) hx hb dX3_stepFrom_20 (by decide) ?_
    refine lv_idiv hx hb dX3_stepFrom_21 (by decide) ?_
    refine lv_topi (fun x21 ex21 => ?_)
    replace h := bdi h _ ex21
    refine lv_istore (lv' := [(4, .int x21), (0, .ref (ad o)), (1, .ref (ad a1)), (2, .null), (3, .int a3)]) hx hb dX3_stepFrom_22 hl (by decide) rfl (fun ls hl => ?_)
    refine lv_iload_n hx hb dX3_stepFrom_24 rfl (lv_at hl 4 rfl) ?_
    refine lv_iconst (v := 5) hx hb dX3_stepFrom_25 (by decide) ?_
    refine lv_irem hx hb dX3_stepFrom_26 (by decide) ?_
    refine lv_topi (fun x22 ex22 => ?_)
    replace h := bdi h _ ex22
    refine lv_istore (lv' := [(5, .int x22), (4, .int x21), (0, .ref (ad o)), (1, .ref (ad a1)), (2, .null), (3, .int a3)]) hx hb dX3_stepFrom_27 hl (by decide) rfl (fun ls hl => ?_)
    refine lv_aload_n hx hb dX3_stepFrom_29 rfl (lv_at hl 2 rfl) ?_
    refine m_get X w o (shn hs 0 rfl) (shk hs 0 rfl : S.2.1 o = 3) ci3 0 (by decide) (fvR (shk hs 0 rfl : S.2.1 o = 3) rfl (shq hs 0 0 rfl rfl : S.2.2.2.1 o 0 = (o + 1) + 1)) rfl fl_X3_12 dX3_stepFrom_30 ?_
    refine lv_aload_n hx hb dX3_stepFrom_33 rfl (lv_at hl 3 rfl) ?_
    refine lv_aload_nN hx hb dX3_stepFrom_34 rfl (lv_at hl 4 rfl) ?_
    refine lv_iconst (v := 0) hx hb dX3_stepFrom_35 (by decide) ?_
    refine lv_iload_n hx hb dX3_stepFrom_36 rfl (lv_at hl 5 rfl) ?_
    refine lv_iconst (v := (-1)) hx hb dX3_stepFrom_37 (by decide) ?_
    obtain ⟨r23, V25, q24, h⟩ := obi h
    refine m_ci (m_rV (As := [.ref (ad a1), .null, .int (0 : Int32), .int a3, .int (-1 : Int32)]) (rest := []) X w hl mi_X6_lastTold ml_X3_35 (o + 1) (shn hs 1 rfl) (shk hs 1 rfl : S.2.1 (o + 1) = 6) rfl (c_X6_lastTold_n l D cy ad A Kc C0 N S V19 (o + 1) (sb_3_1 hs) a1 hs_a1 (0 : Int32) a3 (-1 : Int32) r23 V25 q24) ⟨⟨rfl, rfl, Nat.le_of_ble_eq_true rfl, Nat.le_of_ble_eq_true rfl⟩, Nat.le_of_ble_eq_true rfl, Nat.le_of_ble_eq_true rfl⟩ rfl rfl (Nat.le_of_ble_eq_true rfl) dX3_stepFrom_38) w (fun H locs w => ?_)
    refine lv_iconst (v := 4) hx hb dX3_stepFrom_41 (by decide) ?_
    refine lv_iconst (v := 2) hx hb dX3_stepFrom_42 (by decide) ?_
    obtain ⟨r26, q27, h⟩ := ob1i h
    refine m_ci (m_rSN (As := [.int r23, .int (4 : Int32), .int (2 : Int32)]) (rest := []) X w hl mi_X8_nearest nm_X3_40 (c_X8_nearest l D cy ad A Kc C0 N S V25 r23 (4 : Int32) (2 : Int32) r26 q27) ⟨⟨rfl, rfl, Nat.le_of_ble_eq_true rfl, Nat.le_of_ble_eq_true rfl⟩, Nat.le_of_ble_eq_true rfl, Nat.le_of_ble_eq_true rfl⟩ rfl rfl (Nat.le_of_ble_eq_true rfl) dX3_stepFrom_43) w (fun H locs w => ?_)
    rcases Decidable.em (r26 = (1 : Int32)) with c28 | c28
    · replace h := ifT h c28
      refine lv_tableIn (tgt := 76) hx hb dX3_stepFrom_46 (by rw [c28]; decide) (by rw [c28]; decide) (by rw [c28]; rfl) (by decide) ?_
      obtain ⟨x29, ex29⟩ : ∃ y : Int32, y = x21 + (1 : Int32) := ⟨_, rfl⟩
      replace h := bdi h _ ex29
      refine lv_iinc (v := x29) (lv' := [(4, .int x29), (5, .int x22), (0, .ref (ad o)), (1, .ref (ad a1)), (2, .null), (3, .int a3)]) hx hb dX3_stepFrom_76 hl (k := 1) rfl (by rw [ex29]; rfl) (by decide) rfl (fun ls hl => ?_)
      refine lv_goto (tgt := 102) hx hb dX3_stepFrom_79 (by decide) ?_
      have g := B102 V25 a3 x29 x22 h
      rw [hG] at g
      exact g H locs ls w (lv_sub hl [3, 5, 0, 1] rfl)
    · replace h := ifF h c28
      rcases Decidable.em (r26 = (2 : Int32)) with c37 | c37
      · replace h := ifT h c37
        refine lv_tableIn (tgt := 82) hx hb dX3_stepFrom_46 (by rw [c37]; decide) (by rw [c37]; decide) (by rw [c37]; rfl) (by decide) ?_
        obtain ⟨x38, ex38⟩ : ∃ y : Int32, y = x22 + (1 : Int32) := ⟨_, rfl⟩
        replace h := bdi h _ ex38
        refine lv_iinc (v := x38) (lv' := [(5, .int x38), (4, .int x21), (0, .ref (ad o)), (1, .ref (ad a1)), (2, .null), (3, .int a3)]) hx hb dX3_stepFrom_82 hl (k := 0) rfl (by rw [ex38]; rfl) (by decide) rfl (fun ls hl => ?_)
        refine lv_goto (tgt := 102) hx hb dX3_stepFrom_85 (by decide) ?_
        have g := B102 V25 a3 x21 x38 h
        rw [hG] at g
        exact g H locs ls w (lv_sub hl [3, 5, 1, 0] rfl)
      · replace h := ifF h c37
        rcases Decidable.em (r26 = (3 : Int32)) with c39 | c39
        · replace h := ifT h c39
          refine lv_tableIn (tgt := 88) hx hb dX3_stepFrom_46 (by rw [c39]; decide) (by rw [c39]; decide) (by rw [c39]; rfl) (by decide) ?_
          obtain ⟨x40, ex40⟩ : ∃ y : Int32, y = x21 + (-1 : Int32) := ⟨_, rfl⟩
          replace h := bdi h _ ex40
          refine lv_iinc (v := x40) (lv' := [(4, .int x40), (5, .int x22), (0, .ref (ad o)), (1, .ref (ad a1)), (2, .null), (3, .int a3)]) hx hb dX3_stepFrom_88 hl (k := 1) rfl (by rw [ex40]; rfl) (by decide) rfl (fun ls hl => ?_)
          refine lv_goto (tgt := 102) hx hb dX3_stepFrom_91 (by decide) ?_
          have g := B102 V25 a3 x40 x22 h
          rw [hG] at g
          exact g H locs ls w (lv_sub hl [3, 5, 0, 1] rfl)
        · replace h := ifF h c39
          rcases Decidable.em (r26 = (4 : Int32)) with c41 | c41
          · replace h := ifT h c41
            refine lv_tableIn (tgt := 94) hx hb dX3_stepFrom_46 (by rw [c41]; decide) (by rw [c41]; decide) (by rw [c41]; rfl) (by decide) ?_
            obtain ⟨x42, ex42⟩ : ∃ y : Int32, y = x22 + (-1 : Int32) := ⟨_, rfl⟩
            replace h := bdi h _ ex42
            refine lv_iinc (v := x42) (lv' := [(5, .int x42), (4, .int x21), (0, .ref (ad o)), (1, .ref (ad a1)), (2, .null), (3, .int a3)]) hx hb dX3_stepFrom_94 hl (k := 0) rfl (by rw [ex42]; rfl) (by decide) rfl (fun ls hl => ?_)
            refine lv_goto (tgt := 102) hx hb dX3_stepFrom_97 (by decide) ?_
            have g := B102 V25 a3 x21 x42 h
            rw [hG] at g
            exact g H locs ls w (lv_sub hl [3, 5, 1, 0] rfl)
          · replace h := ifF h c41
            refine lv_tableOut (tgt := 100) hx hb dX3_stepFrom_46 (sw_out [(1 : Int32), (2 : Int32), (3 : Int32), (4 : Int32)] (by decide) (by intro q hq; simp only [List.mem_cons, List.not_mem_nil, or_false] at hq; rcases hq with rfl | rfl | rfl | rfl <;> assumption)) (by decide) ?_
            refine lv_iload_n hx hb dX3_stepFrom_100 rfl (lv_at hl 5 rfl) ?_
            obtain ⟨rfl, rfl⟩ := reti h
            exact m_ri X w hr hlocks dX3_stepFrom_101
  · replace h := ifF h c20
    refine lv_iload_n hx hb dX3_stepFrom_17 rfl (lv_at hl 3 rfl) ?_
    obtain ⟨rfl, rfl⟩ := reti h
    exact m_ri X w hr hlocks dX3_stepFrom_18
def f_X3_stepFrom_t_102 (N : Nat) (S : St) (o : Nat) (a1 : Nat) (a2 : Nat) (V : Vt) (v3 : Int32) (v4 : Int32) (v5 : Int32) : Option (Int32 × Vt) := if v4 < 0 then some ((25 : Int32), V) else if (5 : Int32) ≤ v4 then some ((25 : Int32), V) else if v5 < 0 then some ((25 : Int32), V) else if v5 < (5 : Int32) then bd ((v4 * (5 : Int32)) + v5) (fun x34 => ck x34 25 (if (V.2.1 (a1 + 2) x34.toNatClampNeg) = (1 : Int32) then some (v3, V) else some (x34, V))) else some ((25 : Int32), V)
def f_X3_stepFrom_t (N : Nat) (S : St) (V : Vt) (o : Nat) (a1 : Nat) (a2 : Nat) (a3 : Int32) : Option (Int32 × Vt) := ob (f_X6_lastTold_t N S V (o + 1) a1 a2 (2 : Int32) a3 (-1 : Int32)) (fun r17 V19 => if r17 = (-2000000000 : Int32) then bd (a3 / (5 : Int32)) (fun x21 => bd (a3 - a3 / (5 : Int32) * (5 : Int32)) (fun x22 => ob (f_X6_lastTold_t N S V19 (o + 1) a1 a2 (0 : Int32) a3 (-1 : Int32)) (fun r23 V25 => ob1 (f_X8_nearest N r23 (4 : Int32) (2 : Int32)) (fun r26 => if r26 = (1 : Int32) then bd (x21 + (1 : Int32)) (fun x29 => f_X3_stepFrom_t_102 N S o a1 a2 V25 a3 x29 x22) else if r26 = (2 : Int32) then bd (x22 + (1 : Int32)) (fun x38 => f_X3_stepFrom_t_102 N S o a1 a2 V25 a3 x21 x38) else if r26 = (3 : Int32) then bd (x21 + (-1 : Int32)) (fun x40 => f_X3_stepFrom_t_102 N S o a1 a2 V25 a3 x40 x22) else if r26 = (4 : Int32) then bd (x22 + (-1 : Int32)) (fun x42 => f_X3_stepFrom_t_102 N S o a1 a2 V25 a3 x21 x42) else some (a3, V25))))) else some (a3, V19))
set_option maxHeartbeats 4000000 in
set_option maxRecDepth 100000 in
theorem c_X3_stepFrom_t (l : Launch) (D : va_G) (cy : Nat → ClassId) (ad : Nat → Nat) (A : Nat → Prop) (Kc : State → Prop) (C0 : Cx ad A Kc) (N : Nat) (S : St) (V : Vt) (o : Nat) (hs : shp S o t3) (a1 : Nat) (hs_a1 : shp S a1 t0) (a2 : Nat) (hs_a2 : tsh S a2) (a3 : Int32) (r : Int32) (V' : Vt) (h : f_X3_stepFrom_t N S V o a1 a2 a3 = some (r, V')) : Met l yX3_stepFrom (mw yX3_stepFrom cX3_stepFrom 7 (some .int)) { frames := 3, cells := 0, slots := 0, locals := 82 } (PreM D cy ad Kc S V [.ref (ad o), .ref (ad a1), .ref (ad a2), .int a3]) (QI D cy ad A r S V') 0 0 A := by
  refine ct_go C0 (own := RX3) rfl (by decide) rfl ?_
  intro p e s m below meth c ls H locs X hr hlocks hnm hl w
  have hx := X.1.1
  have hb := X.1.2.1
  have hown := X.2.1
  have hts := X.2.2.1
  have hl : lv_has ls 7 [(0, .ref (ad o)), (1, .ref (ad a1)), (2, .ref (ad a2)), (3, .int a3)] := hl
  obtain ⟨G, hG⟩ : ∃ G : Nat → Vt → List (Nat × Value) → List Value → Prop, G = fun pc V lv st => ∀ (H : Heap) (locs : List Loc) (ls : Array Slot), Wd D cy ad A s.heap S V H locs → lv_has ls 7 lv → W p l e { frames := 3, cells := 0, slots := 0, locals := 82 } s m ([.ref (ad o), .ref (ad a1), .ref (ad a2), .int a3] : List Value).toArray below meth c H locs 0 0 (MQ below (QI D cy ad A r S V') ([.ref (ad o), .ref (ad a1), .ref (ad a2), .int a3] : List Value).toArray s 0 0 A) (F0 m pc ls st) := ⟨_, rfl⟩
  have B102 : ∀ (V : Vt) (v3 : Int32) (v4 : Int32) (v5 : Int32), f_X3_stepFrom_t_102 N S o a1 a2 V v3 v4 v5 = some (r, V') → G 102 V [(1, .ref (ad a1)), (3, .int v3), (4, .int v4), (5, .int v5)] [] := by
    intro V v3 v4 v5 h
    rw [hG]
    intro H locs ls w hl
    rw [f_X3_stepFrom_t_102] at h
    refine lv_iload hx hb dX3_stepFrom_102 (lv_at hl 2 rfl) ?_
    refine lv_if_lt (tgt := 124) hx hb dX3_stepFrom_104 (by decide) (fun c30 => ?_) (fun c30 => ?_)
    · replace h := ifT h c30
      refine lv_bipush (v := 25) hx hb dX3_stepFrom_124 (by decide) ?_
      obtain ⟨rfl, rfl⟩ := reti h
      exact m_ri X w hr hlocks dX3_stepFrom_126
    · replace h := ifF h c30
      refine lv_iload hx hb dX3_stepFrom_107 (lv_at hl 2 rfl) ?_
      refine lv_iconst (v := 5) hx hb dX3_stepFrom_109 (by decide) ?_
      refine lv_icmp_ge (tgt := 124) hx hb dX3_stepFrom_110 (by decide) (fun c31 => ?_) (fun c31 => ?_)
      · replace h := ifT h c31
        refine lv_bipush (v := 25) hx hb dX3_stepFrom_124 (by decide) ?_
        obtain ⟨rfl, rfl⟩ := reti h
        exact m_ri X w hr hlocks dX3_stepFrom_126
      · replace h := ifF h c31
        refine lv_iload hx hb dX3_stepFrom_113 (lv_at hl 3 rfl) ?_
        refine lv_if_lt (tgt := 124) hx hb dX3_stepFrom_115 (by decide) (fun c32 => ?_) (fun c32 => ?_)
        · replace h := ifT h c32
          refine lv_bipush (v := 25) hx hb dX3_stepFrom_124 (by decide) ?_
          obtain ⟨rfl, rfl⟩ := reti h
          exact m_ri X w hr hlocks dX3_stepFrom_126
        · replace h := ifF h c32
          refine lv_iload hx hb dX3_stepFrom_118 (lv_at hl 3 rfl) ?_
          refine lv_iconst (v := 5) hx hb dX3_stepFrom_120 (by decide) ?_
          refine lv_icmp_lt (tgt := 127) hx hb dX3_stepFrom_121 (by decide) (fun c33 => ?_) (fun c33 => ?_)
          · replace h := ifT h c33
            refine lv_iload hx hb dX3_stepFrom_127 (lv_at hl 2 rfl) ?_
            refine lv_iconst (v := 5) hx hb dX3_stepFrom_129 (by decide) ?_
            refine lv_imul hx hb dX3_stepFrom_130 ?_
            refine lv_iload hx hb dX3_stepFrom_131 (lv_at hl 3 rfl) ?_
            refine lv_iadd hx hb dX3_stepFrom_133 ?_
            refine lv_topi (fun x34 ex34 => ?_)
            replace h := bdi h _ ex34
            refine lv_istore (lv' := [(6, .int x34), (1, .ref (ad a1)), (3, .int v3), (4, .int v4), (5, .int v5)]) hx hb dX3_stepFrom_134 hl (by decide) rfl (fun ls hl => ?_)
            refine lv_aload_n hx hb dX3_stepFrom_136 rfl (lv_at hl 1 rfl) ?_
            refine m_getN X w a1 (shn hs_a1 0 rfl) (shk hs_a1 0 rfl : S.2.1 a1 = 0) ci0 1 (by decide) (fvR (shk hs_a1 0 rfl : S.2.1 a1 = 0) rfl (shq hs_a1 0 1 rfl rfl : S.2.2.2.1 a1 1 = (a1 + 2) + 1)) rfl nf_X3_44 dX3_stepFrom_137 ?_
            refine lv_iload hx hb dX3_stepFrom_140 (lv_at hl 0 rfl) ?_
            obtain ⟨g35, h⟩ := cki h
            refine m_iald X w (a1 + 2) (shn hs_a1 2 rfl) (shk hs_a1 2 rfl : S.2.1 (a1 + 2) = 11) (shz hs_a1 2 rfl : S.2.2.1 (a1 + 2) = 25) g35 dX3_stepFrom_142 ?_
            refine lv_iconst (v := 1) hx hb dX3_stepFrom_143 (by decide) ?_
            refine lv_icmp_ne (tgt := 151) hx hb dX3_stepFrom_144 (by decide) (fun c36 => ?_) (fun c36 => ?_)
            · replace h := ifF h c36
              refine lv_iload hx hb dX3_stepFrom_151 (lv_at hl 0 rfl) ?_
              obtain ⟨rfl, rfl⟩ := reti h
              exact m_ri X w hr hlocks dX3_stepFrom_153
            · replace h := ifT h c36
              refine lv_iload_n hx hb dX3_stepFrom_147 rfl (lv_at hl 2 rfl) ?_
              refine lv_goto (tgt := 153) hx hb dX3_stepFrom_148 (by decide) ?_
              obtain ⟨rfl, rfl⟩ := reti h
              exact m_ri X w hr hlocks dX3_stepFrom_153
          · replace h := ifF h c33
            refine lv_bipush (v := 25) hx hb dX3_stepFrom_124 (by decide) ?_
            obtain ⟨rfl, rfl⟩ := reti h
            exact m_ri X w hr hlocks dX3_stepFrom_126
  rw [f_X3_stepFrom_t] at h
  refine lv_aload_n hx hb dX3_stepFrom_0 rfl (lv_at hl 0 rfl) ?_
  refine m_get X w o (shn hs 0 rfl) (shk hs 0 rfl : S.2.1 o = 3) ci3 0 (by decide) (fvR (shk hs 0 rfl : S.2.1 o = 3) rfl (shq hs 0 0 rfl rfl : S.2.2.2.1 o 0 = (o + 1) + 1)) rfl fl_X3_12 dX3_stepFrom_1 ?_
  refine lv_aload_n hx hb dX3_stepFrom_4 rfl (lv_at hl 1 rfl) ?_
  refine lv_aload_n hx hb dX3_stepFrom_5 rfl (lv_at hl 2 rfl) ?_
  refine lv_iconst (v := 2) hx hb dX3_stepFrom_6 (by decide) ?_
  refine lv_iload_n hx hb dX3_stepFrom_7 rfl (lv_at hl 3 rfl) ?_
  refine lv_iconst (v := (-1)) hx hb dX3_stepFrom_8 (by decide) ?_
  obtain ⟨r17, V19, q18, h⟩ := obi h
  refine m_ci (m_rV (As := [.ref (ad a1), .ref (ad a2), .int (2 : Int32), .int a3, .int (-1 : Int32)]) (rest := []) X w hl mi_X6_lastTold ml_X3_35 (o + 1) (shn hs 1 rfl) (shk hs 1 rfl : S.2.1 (o + 1) = 6) rfl (c_X6_lastTold_t l D cy ad A Kc C0 N S V (o + 1) (sb_3_1 hs) a1 hs_a1 a2 hs_a2 (2 : Int32) a3 (-1 : Int32) r17 V19 q18) ⟨⟨rfl, rfl, Nat.le_of_ble_eq_true rfl, Nat.le_of_ble_eq_true rfl⟩, Nat.le_of_ble_eq_true rfl, Nat.le_of_ble_eq_true rfl⟩ rfl rfl (Nat.le_of_ble_eq_true rfl) dX3_stepFrom_9) w (fun H locs w => ?_)
  refine lv_ldc (v := (-2000000000)) hx hb hown (hts _ kc_X3_39) dX3_stepFrom_12 ?_
  refine lv_icmp_eq (tgt := 19) hx hb dX3_stepFrom_14 (by decide) (fun c20 => ?_) (fun c20 => ?_)
  · replace h := ifT h c20
    refine lv_iload_n hx hb dX3_stepFrom_19 rfl (lv_at hl 3 rfl) ?_
    refine lv_iconst (v := 5) hx hb dX3_stepFrom_20 (by decide) ?_
    refine lv_idiv hx hb dX3_stepFrom_21 (by decide) ?_
    refine lv_topi (fun x21 ex21 => ?_)
    replace h := bdi h _ ex21
    refine lv_istore (lv' := [(4, .int x21), (0, .ref (ad o)), (1, .ref (ad a1)), (2, .ref (ad a2)), (3, .int a3)]) hx hb dX3_stepFrom_22 hl (by decide) rfl (fun ls hl => ?_)
    refine lv_iload_n hx hb dX3_stepFrom_24 rfl (lv_at hl 4 rfl) ?_
    refine lv_iconst (v := 5) hx hb dX3_stepFrom_25 (by decide) ?_
    refine lv_irem hx hb dX3_stepFrom_26 (by decide) ?_
    refine lv_topi (fun x22 ex22 => ?_)
    replace h := bdi h _ ex22
    refine lv_istore (lv' := [(5, .int x22), (4, .int x21), (0, .ref (ad o)), (1, .ref (ad a1)), (2, .ref (ad a2)), (3, .int a3)]) hx hb dX3_stepFrom_27 hl (by decide) rfl (fun ls hl => ?_)
    refine lv_aload_n hx hb dX3_stepFrom_29 rfl (lv_at hl 2 rfl) ?_
    refine m_get X w o (shn hs 0 rfl) (shk hs 0 rfl : S.2.1 o = 3) ci3 0 (by decide) (fvR (shk hs 0 rfl : S.2.1 o = 3) rfl (shq hs 0 0 rfl rfl : S.2.2.2.1 o 0 = (o + 1) + 1)) rfl fl_X3_12 dX3_stepFrom_30 ?_
    refine lv_aload_n hx hb dX3_stepFrom_33 rfl (lv_at hl 3 rfl) ?_
    refine lv_aload_n hx hb dX3_stepFrom_34 rfl (lv_at hl 4 rfl) ?_
    refine lv_iconst (v := 0) hx hb dX3_stepFrom_35 (by decide) ?_
    refine lv_iload_n hx hb dX3_stepFrom_36 rfl (lv_at hl 5 rfl) ?_
    refine lv_iconst (v := (-1)) hx hb dX3_stepFrom_37 (by decide) ?_
    obtain ⟨r23, V25, q24, h⟩ := obi h
    refine m_ci (m_rV (As := [.ref (ad a1), .ref (ad a2), .int (0 : Int32), .int a3, .int (-1 : Int32)]) (rest := []) X w hl mi_X6_lastTold ml_X3_35 (o + 1) (shn hs 1 rfl) (shk hs 1 rfl : S.2.1 (o + 1) = 6) rfl (c_X6_lastTold_t l D cy ad A Kc C0 N S V19 (o + 1) (sb_3_1 hs) a1 hs_a1 a2 hs_a2 (0 : Int32) a3 (-1 : Int32) r23 V25 q24) ⟨⟨rfl, rfl, Nat.le_of_ble_eq_true rfl, Nat.le_of_ble_eq_true rfl⟩, Nat.le_of_ble_eq_true rfl, Nat.le_of_ble_eq_true rfl⟩ rfl rfl (Nat.le_of_ble_eq_true rfl) dX3_stepFrom_38) w (fun H locs w => ?_)
    refine lv_iconst (v := 4) hx hb dX3_stepFrom_41 (by decide) ?_
    refine lv_iconst (v := 2) hx hb dX3_stepFrom_42 (by decide) ?_
    obtain ⟨r26, q27, h⟩ := ob1i h
    refine m_ci (m_rSN (As := [.int r23, .int (4 : Int32), .int (2 : Int32)]) (rest := []) X w hl mi_X8_nearest nm_X3_40 (c_X8_nearest l D cy ad A Kc C0 N S V25 r23 (4 : Int32) (2 : Int32) r26 q27) ⟨⟨rfl, rfl, Nat.le_of_ble_eq_true rfl, Nat.le_of_ble_eq_true rfl⟩, Nat.le_of_ble_eq_true rfl, Nat.le_of_ble_eq_true rfl⟩ rfl rfl (Nat.le_of_ble_eq_true rfl) dX3_stepFrom_43) w (fun H locs w => ?_)
    rcases Decidable.em (r26 = (1 : Int32)) with c28 | c28
    · replace h := ifT h c28
      refine lv_tableIn (tgt := 76) hx hb dX3_stepFrom_46 (by rw [c28]; decide) (by rw [c28]; decide) (by rw [c28]; rfl) (by decide) ?_
      obtain ⟨x29, ex29⟩ : ∃ y : Int32, y = x21 + (1 : Int32) := ⟨_, rfl⟩
      replace h := bdi h _ ex29
      refine lv_iinc (v := x29) (lv' := [(4, .int x29), (5, .int x22), (0, .ref (ad o)), (1, .ref (ad a1)), (2, .ref (ad a2)), (3, .int a3)]) hx hb dX3_stepFrom_76 hl (k := 1) rfl (by rw [ex29]; rfl) (by decide) rfl (fun ls hl => ?_)
      refine lv_goto (tgt := 102) hx hb dX3_stepFrom_79 (by decide) ?_
      have g := B102 V25 a3 x29 x22 h
      rw [hG] at g
      exact g H locs ls w (lv_sub hl [3, 5, 0, 1] rfl)
    · replace h := ifF h c28
      rcases Decidable.em (r26 = (2 : Int32)) with c37 | c37
      · replace h := ifT h c37
        refine lv_tableIn (tgt := 82) hx hb dX3_stepFrom_46 (by rw [c37]; decide) (by rw [c37]; decide) (by rw [c37]; rfl) (by decide) ?_
        obtain ⟨x38, ex38⟩ : ∃ y : Int32, y = x22 + (1 : Int32) := ⟨_, rfl⟩
        replace h := bdi h _ ex38
        refine lv_iinc (v := x38) (lv' := [(5, .int x38), (4, .int x21), (0, .ref (ad o)), (1, .ref (ad a1)), (2, .ref (ad a2)), (3, .int a3)]) hx hb dX3_stepFrom_82 hl (k := 0) rfl (by rw [ex38]; rfl) (by decide) rfl (fun ls hl => ?_)
        refine lv_goto (tgt := 102) hx hb dX3_stepFrom_85 (by decide) ?_
        have g := B102 V25 a3 x21 x38 h
        rw [hG] at g
        exact g H locs ls w (lv_sub hl [3, 5, 1, 0] rfl)
      · replace h := ifF h c37
        rcases Decidable.em (r26 = (3 : Int32)) with c39 | c39
        · replace h := ifT h c39
          refine lv_tableIn (tgt := 88) hx hb dX3_stepFrom_46 (by rw [c39]; decide) (by rw [c39]; decide) (by rw [c39]; rfl) (by decide) ?_
          obtain ⟨x40, ex40⟩ : ∃ y : Int32, y = x21 + (-1 : Int32) := ⟨_, rfl⟩
          replace h := bdi h _ ex40
          refine lv_iinc (v := x40) (lv' := [(4, .int x40), (5, .int x22), (0, .ref (ad o)), (1, .ref (ad a1)), (2, .ref (ad a2)), (3, .int a3)]) hx hb dX3_stepFrom_88 hl (k := 1) rfl (by rw [ex40]; rfl) (by decide) rfl (fun ls hl => ?_)
          refine lv_goto (tgt := 102) hx hb dX3_stepFrom_91 (by decide) ?_
          have g := B102 V25 a3 x40 x22 h
          rw [hG] at g
          exact g H locs ls w (lv_sub hl [3, 5, 0, 1] rfl)
        · replace h := ifF h c39
          rcases Decidable.em (r26 = (4 : Int32)) with c41 | c41
          · replace h := ifT h c41
            refine lv_tableIn (tgt := 94) hx hb dX3_stepFrom_46 (by rw [c41]; decide) (by rw [c41]; decide) (by rw [c41]; rfl) (by decide) ?_
            obtain ⟨x42, ex42⟩ : ∃ y : Int32, y = x22 + (-1 : Int32) := ⟨_, rfl⟩
            replace h := bdi h _ ex42
            refine lv_iinc (v := x42) (lv' := [(5, .int x42), (4, .int x21), (0, .ref (ad o)), (1, .ref (ad a1)), (2, .ref (ad a2)), (3, .int a3)]) hx hb dX3_stepFrom_94 hl (k := 0) rfl (by rw [ex42]; rfl) (by decide) rfl (fun ls hl => ?_)
            refine lv_goto (tgt := 102) hx hb dX3_stepFrom_97 (by decide) ?_
            have g := B102 V25 a3 x21 x42 h
            rw [hG] at g
            exact g H locs ls w (lv_sub hl [3, 5, 1, 0] rfl)
          · replace h := ifF h c41
            refine lv_tableOut (tgt := 100) hx hb dX3_stepFrom_46 (sw_out [(1 : Int32), (2 : Int32), (3 : Int32), (4 : Int32)] (by decide) (by intro q hq; simp only [List.mem_cons, List.not_mem_nil, or_false] at hq; rcases hq with rfl | rfl | rfl | rfl <;> assumption)) (by decide) ?_
            refine lv_iload_n hx hb dX3_stepFrom_100 rfl (lv_at hl 5 rfl) ?_
            obtain ⟨rfl, rfl⟩ := reti h
            exact m_ri X w hr hlocks dX3_stepFrom_101
  · replace h := ifF h c20
    refine lv_iload_n hx hb dX3_stepFrom_17 rfl (lv_at hl 3 rfl) ?_
    obtain ⟨rfl, rfl⟩ := reti h
    exact m_ri X w hr hlocks dX3_stepFrom_18
def f_X8_at (N : Nat) (S : St) (V : Vt) (o : Nat) (a1 : Int32) (a2 : Int32) : Option (Int32 × Vt) := ob1 (f_X8_isCell N a1) (fun r19 => if r19 = 0 then some ((-1 : Int32), V) else if a2 = (0 : Int32) then ck a1 25 (some (V.2.1 (o + 2) a1.toNatClampNeg, V)) else if a2 = (1 : Int32) then ck a1 25 (some (V.2.1 (o + 3) a1.toNatClampNeg, V)) else if a2 = (2 : Int32) then ob1 (f_X0_lawInForce N S V (o + 1)) (fun r27 => nl r27 (ob (f_X6_lastTold_n N S V (o + 44) (o + 1) (0 : Int32) a1 (-1 : Int32)) (fun r31 V33 => ob1 (f_X8_nearest N r31 (4 : Int32) (2 : Int32)) (fun r34 => some (r34, V33)))) (fun q29 => cg (tshB S q29) (ob (f_X6_lastTold_t N S V (o + 44) (o + 1) q29 (0 : Int32) a1 (-1 : Int32)) (fun r36 V38 => ob1 (f_X8_nearest N r36 (4 : Int32) (2 : Int32)) (fun r39 => some (r39, V38)))))) else if a2 = (3 : Int32) then ob1 (f_X0_lawInForce N S V (o + 1)) (fun r42 => nl r42 (ob (f_X6_lastTold_n N S V (o + 44) (o + 1) (2 : Int32) a1 (-1 : Int32)) (fun r46 V48 => if r46 = (-2000000000 : Int32) then some ((0 : Int32), V48) else some ((1 : Int32), V48))) (fun q44 => cg (tshB S q44) (ob (f_X6_lastTold_t N S V (o + 44) (o + 1) q44 (2 : Int32) a1 (-1 : Int32)) (fun r50 V52 => if r50 = (-2000000000 : Int32) then some ((0 : Int32), V52) else some ((1 : Int32), V52))))) else some ((-1 : Int32), V))
set_option maxHeartbeats 4000000 in
set_option maxRecDepth 100000 in
theorem c_X8_at (l : Launch) (D : va_G) (cy : Nat → ClassId) (ad : Nat → Nat) (A : Nat → Prop) (Kc : State → Prop) (C0 : Cx ad A Kc) (N : Nat) (S : St) (V : Vt) (o : Nat) (hs : shp S o t8) (a1 : Int32) (a2 : Int32) (r : Int32) (V' : Vt) (h : f_X8_at N S V o a1 a2 = some (r, V')) : Met l yX8_at (mw yX8_at cX8_at 3 (some .int)) { frames := 3, cells := 0, slots := 0, locals := 82 } (PreM D cy ad Kc S V [.ref (ad o), .int a1, .int a2]) (QI D cy ad A r S V') 0 0 A := by
  refine ct_go C0 (own := RX8) rfl (by decide) rfl ?_
  intro p e s m below meth c ls H locs X hr hlocks hnm hl w
  have hx := X.1.1
  have hb := X.1.2.1
  have hown := X.2.1
  have hts := X.2.2.1
  have hl : lv_has ls 3 [(0, .ref (ad o)), (1, .int a1), (2, .int a2)] := hl
  rw [f_X8_at] at h
  refine lv_iload_n hx hb dX8_at_0 rfl (lv_at hl 1 rfl) ?_
  obtain ⟨r19, q20, h⟩ := ob1i h
  refine m_ci (m_rS (As := [.int a1]) (rest := []) X w hl mi_X8_isCell ml_X8_89 (c_X8_isCell l D cy ad A Kc C0 N S V a1 r19 q20) ⟨⟨rfl, rfl, Nat.le_of_ble_eq_true rfl, Nat.le_of_ble_eq_true rfl⟩, Nat.le_of_ble_eq_true rfl, Nat.le_of_ble_eq_true rfl⟩ rfl rfl (Nat.le_of_ble_eq_true rfl) dX8_at_1) w (fun H locs w => ?_)
  refine lv_if_ne (tgt := 9) hx hb dX8_at_4 (by decide) (fun c21 => ?_) (fun c21 => ?_)
  · replace h := ifF h c21
    refine lv_iload_n hx hb dX8_at_9 rfl (lv_at hl 2 rfl) ?_
    rcases Decidable.em (a2 = (0 : Int32)) with c22 | c22
    · replace h := ifT h c22
      refine lv_tableIn (tgt := 40) hx hb dX8_at_10 (by rw [c22]; decide) (by rw [c22]; decide) (by rw [c22]; rfl) (by decide) ?_
      refine lv_aload_n hx hb dX8_at_40 rfl (lv_at hl 0 rfl) ?_
      refine m_get X w o (shn hs 0 rfl) (shk hs 0 rfl : S.2.1 o = 8) ci8 0 (by decide) (fvR (shk hs 0 rfl : S.2.1 o = 8) rfl (shq hs 0 0 rfl rfl : S.2.2.2.1 o 0 = (o + 1) + 1)) rfl fl_X8_12 dX8_at_41 ?_
      refine m_getN X w (o + 1) (shn hs 1 rfl) (shk hs 1 rfl : S.2.1 (o + 1) = 0) ci0 0 (by decide) (fvR (shk hs 1 rfl : S.2.1 (o + 1) = 0) rfl (shq hs 1 0 rfl rfl : S.2.2.2.1 (o + 1) 0 = (o + 2) + 1)) rfl nf_X8_101 dX8_at_44 ?_
      refine lv_iload_n hx hb dX8_at_47 rfl (lv_at hl 1 rfl) ?_
      obtain ⟨g23, h⟩ := cki h
      refine m_iald X w (o + 2) (shn hs 2 rfl) (shk hs 2 rfl : S.2.1 (o + 2) = 11) (shz hs 2 rfl : S.2.2.1 (o + 2) = 25) g23 dX8_at_48 ?_
      obtain ⟨rfl, rfl⟩ := reti h
      exact m_ri X w hr hlocks dX8_at_49
    · replace h := ifF h c22
      rcases Decidable.em (a2 = (1 : Int32)) with c24 | c24
      · replace h := ifT h c24
        refine lv_tableIn (tgt := 50) hx hb dX8_at_10 (by rw [c24]; decide) (by rw [c24]; decide) (by rw [c24]; rfl) (by decide) ?_
        refine lv_aload_n hx hb dX8_at_50 rfl (lv_at hl 0 rfl) ?_
        refine m_get X w o (shn hs 0 rfl) (shk hs 0 rfl : S.2.1 o = 8) ci8 0 (by decide) (fvR (shk hs 0 rfl : S.2.1 o = 8) rfl (shq hs 0 0 rfl rfl : S.2.2.2.1 o 0 = (o + 1) + 1)) rfl fl_X8_12 dX8_at_51 ?_
        refine m_getN X w (o + 1) (shn hs 1 rfl) (shk hs 1 rfl : S.2.1 (o + 1) = 0) ci0 1 (by decide) (fvR (shk hs 1 rfl : S.2.1 (o + 1) = 0) rfl (shq hs 1 1 rfl rfl : S.2.2.2.1 (o + 1) 1 = (o + 3) + 1)) rfl nf_X8_110 dX8_at_54 ?_
        refine lv_iload_n hx hb dX8_at_57 rfl (lv_at hl 1 rfl) ?_
        obtain ⟨g25, h⟩ := cki h
        refine m_iald X w (o + 3) (shn hs 3 rfl) (shk hs 3 rfl : S.2.1 (o + 3) = 11) (shz hs 3 rfl : S.2.2.1 (o + 3) = 25) g25 dX8_at_58 ?_
        obtain ⟨rfl, rfl⟩ := reti h
        exact m_ri X w hr hlocks dX8_at_59
      · replace h := ifF h c24
        rcases Decidable.em (a2 = (2 : Int32)) with c26 | c26
        · replace h := ifT h c26
          refine lv_tableIn (tgt := 60) hx hb dX8_at_10 (by rw [c26]; decide) (by rw [c26]; decide) (by rw [c26]; rfl) (by decide) ?_
          refine lv_aload_n hx hb dX8_at_60 rfl (lv_at hl 0 rfl) ?_
          refine m_get X w o (shn hs 0 rfl) (shk hs 0 rfl : S.2.1 o = 8) ci8 9 (by decide) (fvR (shk hs 0 rfl : S.2.1 o = 8) rfl (shq hs 0 9 rfl rfl : S.2.2.2.1 o 9 = (o + 44) + 1)) rfl fl_X8_57 dX8_at_61 ?_
          refine lv_aload_n hx hb dX8_at_64 rfl (lv_at hl 0 rfl) ?_
          refine m_get X w o (shn hs 0 rfl) (shk hs 0 rfl : S.2.1 o = 8) ci8 0 (by decide) (fvR (shk hs 0 rfl : S.2.1 o = 8) rfl (shq hs 0 0 rfl rfl : S.2.2.2.1 o 0 = (o + 1) + 1)) rfl fl_X8_12 dX8_at_65 ?_
          refine lv_aload_n hx hb dX8_at_68 rfl (lv_at hl 0 rfl) ?_
          refine m_get X w o (shn hs 0 rfl) (shk hs 0 rfl : S.2.1 o = 8) ci8 0 (by decide) (fvR (shk hs 0 rfl : S.2.1 o = 8) rfl (shq hs 0 0 rfl rfl : S.2.2.2.1 o 0 = (o + 1) + 1)) rfl fl_X8_12 dX8_at_69 ?_
          obtain ⟨r27, q28, h⟩ := ob1i h
          refine m_cn (m_rV (As := []) (rest := [.ref (ad (o + 1)), .ref (ad (o + 44))]) X w hl mi_X0_lawInForce ml_X8_113 (o + 1) (shn hs 1 rfl) (shk hs 1 rfl : S.2.1 (o + 1) = 0) rfl (c_X0_lawInForce l D cy ad A Kc C0 N S V (o + 1) (sb_8_1 hs) r27 q28) ⟨⟨rfl, rfl, Nat.le_of_ble_eq_true rfl, Nat.le_of_ble_eq_true rfl⟩, Nat.le_of_ble_eq_true rfl, Nat.le_of_ble_eq_true rfl⟩ rfl rfl (Nat.le_of_ble_eq_true rfl) dX8_at_72) w (fun H locs w => ?_)
          cases r27 with
          | zero =>
            replace h := nl0 h
            refine lv_iconst (v := 0) hx hb dX8_at_75 (by decide) ?_
            refine lv_iload_n hx hb dX8_at_76 rfl (lv_at hl 1 rfl) ?_
            refine lv_iconst (v := (-1)) hx hb dX8_at_77 (by decide) ?_
            obtain ⟨r31, V33, q32, h⟩ := obi h
            refine m_ci (m_rV (As := [.ref (ad (o + 1)), .null, .int (0 : Int32), .int a1, .int (-1 : Int32)]) (rest := []) X w hl mi_X6_lastTold ml_X8_117 (o + 44) (shn hs 44 rfl) (shk hs 44 rfl : S.2.1 (o + 44) = 6) rfl (c_X6_lastTold_n l D cy ad A Kc C0 N S V (o + 44) (sb_8_44 hs) (o + 1) (sb_8_1 hs) (0 : Int32) a1 (-1 : Int32) r31 V33 q32) ⟨⟨rfl, rfl, Nat.le_of_ble_eq_true rfl, Nat.le_of_ble_eq_true rfl⟩, Nat.le_of_ble_eq_true rfl, Nat.le_of_ble_eq_true rfl⟩ rfl rfl (Nat.le_of_ble_eq_true rfl) dX8_at_78) w (fun H locs w => ?_)
            refine lv_iconst (v := 4) hx hb dX8_at_81 (by decide) ?_
            refine lv_iconst (v := 2) hx hb dX8_at_82 (by decide) ?_
            obtain ⟨r34, q35, h⟩ := ob1i h
            refine m_ci (m_rS (As := [.int r31, .int (4 : Int32), .int (2 : Int32)]) (rest := []) X w hl mi_X8_nearest ml_X8_121 (c_X8_nearest l D cy ad A Kc C0 N S V33 r31 (4 : Int32) (2 : Int32) r34 q35) ⟨⟨rfl, rfl, Nat.le_of_ble_eq_true rfl, Nat.le_of_ble_eq_true rfl⟩, Nat.le_of_ble_eq_true rfl, Nat.le_of_ble_eq_true rfl⟩ rfl rfl (Nat.le_of_ble_eq_true rfl) dX8_at_83) w (fun H locs w => ?_)
            obtain ⟨rfl, rfl⟩ := reti h
            exact m_ri X w hr hlocks dX8_at_86
          | succ q29 =>
            replace h := nls h
            obtain ⟨g30, h⟩ := cgi h
            have hs_q29 := tsh_of g30
            refine lv_iconst (v := 0) hx hb dX8_at_75 (by decide) ?_
            refine lv_iload_n hx hb dX8_at_76 rfl (lv_at hl 1 rfl) ?_
            refine lv_iconst (v := (-1)) hx hb dX8_at_77 (by decide) ?_
            obtain ⟨r36, V38, q37, h⟩ := obi h
            refine m_ci (m_rV (As := [.ref (ad (o + 1)), .ref (ad q29), .int (0 : Int32), .int a1, .int (-1 : Int32)]) (rest := []) X w hl mi_X6_lastTold ml_X8_117 (o + 44) (shn hs 44 rfl) (shk hs 44 rfl : S.2.1 (o + 44) = 6) rfl (c_X6_lastTold_t l D cy ad A Kc C0 N S V (o + 44) (sb_8_44 hs) (o + 1) (sb_8_1 hs) q29 hs_q29 (0 : Int32) a1 (-1 : Int32) r36 V38 q37) ⟨⟨rfl, rfl, Nat.le_of_ble_eq_true rfl, Nat.le_of_ble_eq_true rfl⟩, Nat.le_of_ble_eq_true rfl, Nat.le_of_ble_eq_true rfl⟩ rfl rfl (Nat.le_of_ble_eq_true rfl) dX8_at_78) w (fun H locs w => ?_)
            refine lv_iconst (v := 4) hx hb dX8_at_81 (by decide) ?_
            refine lv_iconst (v := 2) hx hb dX8_at_82 (by decide) ?_
            obtain ⟨r39, q40, h⟩ := ob1i h
            refine m_ci (m_rS (As := [.int r36, .int (4 : Int32), .int (2 : Int32)]) (rest := []) X w hl mi_X8_nearest ml_X8_121 (c_X8_nearest l D cy ad A Kc C0 N S V38 r36 (4 : Int32) (2 : Int32) r39 q40) ⟨⟨rfl, rfl, Nat.le_of_ble_eq_true rfl, Nat.le_of_ble_eq_true rfl⟩, Nat.le_of_ble_eq_true rfl, Nat.le_of_ble_eq_true rfl⟩ rfl rfl (Nat.le_of_ble_eq_true rfl) dX8_at_83) w (fun H locs w => ?_)
            obtain ⟨rfl, rfl⟩ := reti h
            exact m_ri X w hr hlocks dX8_at_86
        · replace h := ifF h c26
          rcases Decidable.em (a2 = (3 : Int32)) with c41 | c41
          · replace h := ifT h c41
            refine lv_tableIn (tgt := 87) hx hb dX8_at_10 (by rw [c41]; decide) (by rw [c41]; decide) (by rw [c41]; rfl) (by decide) ?_
            refine lv_aload_n hx hb dX8_at_87 rfl (lv_at hl 0 rfl) ?_
            refine m_get X w o (shn hs 0 rfl) (shk hs 0 rfl : S.2.1 o = 8) ci8 9 (by decide) (fvR (shk hs 0 rfl : S.2.1 o = 8) rfl (shq hs 0 9 rfl rfl : S.2.2.2.1 o 9 = (o + 44) + 1)) rfl fl_X8_57 dX8_at_88 ?_
            refine lv_aload_n hx hb dX8_at_91 rfl (lv_at hl 0 rfl) ?_
            refine m_get X w o (shn hs 0 rfl) (shk hs 0 rfl : S.2.1 o = 8) ci8 0 (by decide) (fvR (shk hs 0 rfl : S.2.1 o = 8) rfl (shq hs 0 0 rfl rfl : S.2.2.2.1 o 0 = (o + 1) + 1)) rfl fl_X8_12 dX8_at_92 ?_
            refine lv_aload_n hx hb dX8_at_95 rfl (lv_at hl 0 rfl) ?_
            refine m_get X w o (shn hs 0 rfl) (shk hs 0 rfl : S.2.1 o = 8) ci8 0 (by decide) (fvR (shk hs 0 rfl : S.2.1 o = 8) rfl (shq hs 0 0 rfl rfl : S.2.2.2.1 o 0 = (o + 1) + 1)) rfl fl_X8_12 dX8_at_96 ?_
            obtain ⟨r42, q43, h⟩ := ob1i h
            refine m_cn (m_rV (As := []) (rest := [.ref (ad (o + 1)), .ref (ad (o + 44))]) X w hl mi_X0_lawInForce ml_X8_113 (o + 1) (shn hs 1 rfl) (shk hs 1 rfl : S.2.1 (o + 1) = 0) rfl (c_X0_lawInForce l D cy ad A Kc C0 N S V (o + 1) (sb_8_1 hs) r42 q43) ⟨⟨rfl, rfl, Nat.le_of_ble_eq_true rfl, Nat.le_of_ble_eq_true rfl⟩, Nat.le_of_ble_eq_true rfl, Nat.le_of_ble_eq_true rfl⟩ rfl rfl (Nat.le_of_ble_eq_true rfl) dX8_at_99) w (fun H locs w => ?_)
            cases r42 with
            | zero =>
              replace h := nl0 h
              refine lv_iconst (v := 2) hx hb dX8_at_102 (by decide) ?_
              refine lv_iload_n hx hb dX8_at_103 rfl (lv_at hl 1 rfl) ?_
              refine lv_iconst (v := (-1)) hx hb dX8_at_104 (by decide) ?_
              obtain ⟨r46, V48, q47, h⟩ := obi h
              refine m_ci (m_rV (As := [.ref (ad (o + 1)), .null, .int (2 : Int32), .int a1, .int (-1 : Int32)]) (rest := []) X w hl mi_X6_lastTold ml_X8_117 (o + 44) (shn hs 44 rfl) (shk hs 44 rfl : S.2.1 (o + 44) = 6) rfl (c_X6_lastTold_n l D cy ad A Kc C0 N S V (o + 44) (sb_8_44 hs) (o + 1) (sb_8_1 hs) (2 : Int32) a1 (-1 : Int32) r46 V48 q47) ⟨⟨rfl, rfl, Nat.le_of_ble_eq_true rfl, Nat.le_of_ble_eq_true rfl⟩, Nat.le_of_ble_eq_true rfl, Nat.le_of_ble_eq_true rfl⟩ rfl rfl (Nat.le_of_ble_eq_true rfl) dX8_at_105) w (fun H locs w => ?_)
              refine lv_ldc (v := (-2000000000)) hx hb hown (hts _ kc_X8_125) dX8_at_108 ?_
              refine lv_icmp_ne (tgt := 117) hx hb dX8_at_110 (by decide) (fun c49 => ?_) (fun c49 => ?_)
              · replace h := ifF h c49
                refine lv_iconst (v := 1) hx hb dX8_at_117 (by decide) ?_
                obtain ⟨rfl, rfl⟩ := reti h
                exact m_ri X w hr hlocks dX8_at_118
              · replace h := ifT h c49
                refine lv_iconst (v := 0) hx hb dX8_at_113 (by decide) ?_
                refine lv_goto (tgt := 118) hx hb dX8_at_114 (by decide) ?_
                obtain ⟨rfl, rfl⟩ := reti h
                exact m_ri X w hr hlocks dX8_at_118
            | succ q44 =>
              replace h := nls h
              obtain ⟨g45, h⟩ := cgi h
              have hs_q44 := tsh_of g45
              refine lv_iconst (v := 2) hx hb dX8_at_102 (by decide) ?_
              refine lv_iload_n hx hb dX8_at_103 rfl (lv_at hl 1 rfl) ?_
              refine lv_iconst (v := (-1)) hx hb dX8_at_104 (by decide) ?_
              obtain ⟨r50, V52, q51, h⟩ := obi h
              refine m_ci (m_rV (As := [.ref (ad (o + 1)), .ref (ad q44), .int (2 : Int32), .int a1, .int (-1 : Int32)]) (rest := []) X w hl mi_X6_lastTold ml_X8_117 (o + 44) (shn hs 44 rfl) (shk hs 44 rfl : S.2.1 (o + 44) = 6) rfl (c_X6_lastTold_t l D cy ad A Kc C0 N S V (o + 44) (sb_8_44 hs) (o + 1) (sb_8_1 hs) q44 hs_q44 (2 : Int32) a1 (-1 : Int32) r50 V52 q51) ⟨⟨rfl, rfl, Nat.le_of_ble_eq_true rfl, Nat.le_of_ble_eq_true rfl⟩, Nat.le_of_ble_eq_true rfl, Nat.le_of_ble_eq_true rfl⟩ rfl rfl (Nat.le_of_ble_eq_true rfl) dX8_at_105) w (fun H locs w => ?_)
              refine lv_ldc (v := (-2000000000)) hx hb hown (hts _ kc_X8_125) dX8_at_108 ?_
              refine lv_icmp_ne (tgt := 117) hx hb dX8_at_110 (by decide) (fun c53 => ?_) (fun c53 => ?_)
              · replace h := ifF h c53
                refine lv_iconst (v := 1) hx hb dX8_at_117 (by decide) ?_
                obtain ⟨rfl, rfl⟩ := reti h
                exact m_ri X w hr hlocks dX8_at_118
              · replace h := ifT h c53
                refine lv_iconst (v := 0) hx hb dX8_at_113 (by decide) ?_
                refine lv_goto (tgt := 118) hx hb dX8_at_114 (by decide) ?_
                obtain ⟨rfl, rfl⟩ := reti h
                exact m_ri X w hr hlocks dX8_at_118
          · replace h := ifF h c41
            refine lv_tableOut (tgt := 119) hx hb dX8_at_10 (sw_out [(0 : Int32), (1 : Int32), (2 : Int32), (3 : Int32)] (by decide) (by intro q hq; simp only [List.mem_cons, List.not_mem_nil, or_false] at hq; rcases hq with rfl | rfl | rfl | rfl <;> assumption)) (by decide) ?_
            refine lv_iconst (v := (-1)) hx hb dX8_at_119 (by decide) ?_
            obtain ⟨rfl, rfl⟩ := reti h
            exact m_ri X w hr hlocks dX8_at_120
  · replace h := ifT h c21
    refine lv_iconst (v := (-1)) hx hb dX8_at_7 (by decide) ?_
    obtain ⟨rfl, rfl⟩ := reti h
    exact m_ri X w hr hlocks dX8_at_8
def f_X8_asks (N : Nat) (S : St) (V : Vt) (o : Nat) (a1 : Int32) (a2 : Int32) (a3 : Int32) : Option (Int32 × Vt) := ob1 (f_X0_hasClerk N S V (o + 1) a1) (fun r19 => if r19 = 0 then some ((-1 : Int32), V) else ob1 (f_X8_isCell N a2) (fun r22 => if r22 = 0 then some ((-1 : Int32), V) else if a3 = (0 : Int32) then ob1 (f_X0_lawInForce N S V (o + 1)) (fun r26 => nl r26 (ob (f_X6_lastTold_n N S V (o + 44) (o + 1) (1 : Int32) a2 a1) (fun r30 V32 => ob1 (f_X8_nearest N r30 (99 : Int32) (10 : Int32)) (fun r33 => some (r33, V32)))) (fun q28 => cg (tshB S q28) (ob (f_X6_lastTold_t N S V (o + 44) (o + 1) q28 (1 : Int32) a2 a1) (fun r35 V37 => ob1 (f_X8_nearest N r35 (99 : Int32) (10 : Int32)) (fun r38 => some (r38, V37)))))) else if a3 = (1 : Int32) then ob1 (f_X0_lawInForce N S V (o + 1)) (fun r41 => nl r41 (ob (f_X6_lastTold_n N S V (o + 44) (o + 1) (3 : Int32) a2 a1) (fun r45 V47 => if r45 = (-2000000000 : Int32) then some ((0 : Int32), V47) else some ((1 : Int32), V47))) (fun q43 => cg (tshB S q43) (ob (f_X6_lastTold_t N S V (o + 44) (o + 1) q43 (3 : Int32) a2 a1) (fun r49 V51 => if r49 = (-2000000000 : Int32) then some ((0 : Int32), V51) else some ((1 : Int32), V51))))) else some ((-1 : Int32), V)))
set_option maxHeartbeats 4000000 in
set_option maxRecDepth 100000 in
theorem c_X8_asks (l : Launch) (D : va_G) (cy : Nat → ClassId) (ad : Nat → Nat) (A : Nat → Prop) (Kc : State → Prop) (C0 : Cx ad A Kc) (N : Nat) (S : St) (V : Vt) (o : Nat) (hs : shp S o t8) (a1 : Int32) (a2 : Int32) (a3 : Int32) (r : Int32) (V' : Vt) (h : f_X8_asks N S V o a1 a2 a3 = some (r, V')) : Met l yX8_asks (mw yX8_asks cX8_asks 4 (some .int)) { frames := 3, cells := 0, slots := 0, locals := 82 } (PreM D cy ad Kc S V [.ref (ad o), .int a1, .int a2, .int a3]) (QI D cy ad A r S V') 0 0 A := by
  refine ct_go C0 (own := RX8) rfl (by decide) rfl ?_
  intro p e s m below meth c ls H locs X hr hlocks hnm hl w
  have hx := X.1.1
  have hb := X.1.2.1
  have hown := X.2.1
  have hts := X.2.2.1
  have hl : lv_has ls 4 [(0, .ref (ad o)), (1, .int a1), (2, .int a2), (3, .int a3)] := hl
  rw [f_X8_asks] at h
  refine lv_aload_n hx hb dX8_asks_0 rfl (lv_at hl 0 rfl) ?_
  refine m_get X w o (shn hs 0 rfl) (shk hs 0 rfl : S.2.1 o = 8) ci8 0 (by decide) (fvR (shk hs 0 rfl : S.2.1 o = 8) rfl (shq hs 0 0 rfl rfl : S.2.2.2.1 o 0 = (o + 1) + 1)) rfl fl_X8_12 dX8_asks_1 ?_
  refine lv_iload_n hx hb dX8_asks_4 rfl (lv_at hl 1 rfl) ?_
  obtain ⟨r19, q20, h⟩ := ob1i h
  refine m_ci (m_rV (As := [.int a1]) (rest := []) X w hl mi_X0_hasClerk ml_X8_147 (o + 1) (shn hs 1 rfl) (shk hs 1 rfl : S.2.1 (o + 1) = 0) rfl (c_X0_hasClerk l D cy ad A Kc C0 N S V (o + 1) (sb_8_1 hs) a1 r19 q20) ⟨⟨rfl, rfl, Nat.le_of_ble_eq_true rfl, Nat.le_of_ble_eq_true rfl⟩, Nat.le_of_ble_eq_true rfl, Nat.le_of_ble_eq_true rfl⟩ rfl rfl (Nat.le_of_ble_eq_true rfl) dX8_asks_5) w (fun H locs w => ?_)
  refine lv_if_eq (tgt := 18) hx hb dX8_asks_8 (by decide) (fun c21 => ?_) (fun c21 => ?_)
  · replace h := ifT h c21
    refine lv_iconst (v := (-1)) hx hb dX8_asks_18 (by decide) ?_
    obtain ⟨rfl, rfl⟩ := reti h
    exact m_ri X w hr hlocks dX8_asks_19
  · replace h := ifF h c21
    refine lv_iload_n hx hb dX8_asks_11 rfl (lv_at hl 2 rfl) ?_
    obtain ⟨r22, q23, h⟩ := ob1i h
    refine m_ci (m_rS (As := [.int a2]) (rest := []) X w hl mi_X8_isCell ml_X8_89 (c_X8_isCell l D cy ad A Kc C0 N S V a2 r22 q23) ⟨⟨rfl, rfl, Nat.le_of_ble_eq_true rfl, Nat.le_of_ble_eq_true rfl⟩, Nat.le_of_ble_eq_true rfl, Nat.le_of_ble_eq_true rfl⟩ rfl rfl (Nat.le_of_ble_eq_true rfl) dX8_asks_12) w (fun H locs w => ?_)
    refine lv_if_ne (tgt := 20) hx hb dX8_asks_15 (by decide) (fun c24 => ?_) (fun c24 => ?_)
    · replace h := ifF h c24
      refine lv_iload_n hx hb dX8_asks_20 rfl (lv_at hl 3 rfl) ?_
      rcases Decidable.em (a3 = (0 : Int32)) with c25 | c25
      · replace h := ifT h c25
        refine lv_lookup (tgt := 48) (off := 27) hx hb dX8_asks_21 (by decide) (by rw [c25]; rfl) (by decide) ?_
        refine lv_aload_n hx hb dX8_asks_48 rfl (lv_at hl 0 rfl) ?_
        refine m_get X w o (shn hs 0 rfl) (shk hs 0 rfl : S.2.1 o = 8) ci8 9 (by decide) (fvR (shk hs 0 rfl : S.2.1 o = 8) rfl (shq hs 0 9 rfl rfl : S.2.2.2.1 o 9 = (o + 44) + 1)) rfl fl_X8_57 dX8_asks_49 ?_
        refine lv_aload_n hx hb dX8_asks_52 rfl (lv_at hl 0 rfl) ?_
        refine m_get X w o (shn hs 0 rfl) (shk hs 0 rfl : S.2.1 o = 8) ci8 0 (by decide) (fvR (shk hs 0 rfl : S.2.1 o = 8) rfl (shq hs 0 0 rfl rfl : S.2.2.2.1 o 0 = (o + 1) + 1)) rfl fl_X8_12 dX8_asks_53 ?_
        refine lv_aload_n hx hb dX8_asks_56 rfl (lv_at hl 0 rfl) ?_
        refine m_get X w o (shn hs 0 rfl) (shk hs 0 rfl : S.2.1 o = 8) ci8 0 (by decide) (fvR (shk hs 0 rfl : S.2.1 o = 8) rfl (shq hs 0 0 rfl rfl : S.2.2.2.1 o 0 = (o + 1) + 1)) rfl fl_X8_12 dX8_asks_57 ?_
        obtain ⟨r26, q27, h⟩ := ob1i h
        refine m_cn (m_rV (As := []) (rest := [.ref (ad (o + 1)), .ref (ad (o + 44))]) X w hl mi_X0_lawInForce ml_X8_113 (o + 1) (shn hs 1 rfl) (shk hs 1 rfl : S.2.1 (o + 1) = 0) rfl (c_X0_lawInForce l D cy ad A Kc C0 N S V (o + 1) (sb_8_1 hs) r26 q27) ⟨⟨rfl, rfl, Nat.le_of_ble_eq_true rfl, Nat.le_of_ble_eq_true rfl⟩, Nat.le_of_ble_eq_true rfl, Nat.le_of_ble_eq_true rfl⟩ rfl rfl (Nat.le_of_ble_eq_true rfl) dX8_asks_60) w (fun H locs w => ?_)
        cases r26 with
        | zero =>
          replace h := nl0 h
          refine lv_iconst (v := 1) hx hb dX8_asks_63 (by decide) ?_
          refine lv_iload_n hx hb dX8_asks_64 rfl (lv_at hl 2 rfl) ?_
          refine lv_iload_n hx hb dX8_asks_65 rfl (lv_at hl 1 rfl) ?_
          obtain ⟨r30, V32, q31, h⟩ := obi h
          refine m_ci (m_rV (As := [.ref (ad (o + 1)), .null, .int (1 : Int32), .int a2, .int a1]) (rest := []) X w hl mi_X6_lastTold ml_X8_117 (o + 44) (shn hs 44 rfl) (shk hs 44 rfl : S.2.1 (o + 44) = 6) rfl (c_X6_lastTold_n l D cy ad A Kc C0 N S V (o + 44) (sb_8_44 hs) (o + 1) (sb_8_1 hs) (1 : Int32) a2 a1 r30 V32 q31) ⟨⟨rfl, rfl, Nat.le_of_ble_eq_true rfl, Nat.le_of_ble_eq_true rfl⟩, Nat.le_of_ble_eq_true rfl, Nat.le_of_ble_eq_true rfl⟩ rfl rfl (Nat.le_of_ble_eq_true rfl) dX8_asks_66) w (fun H locs w => ?_)
          refine lv_bipush (v := 99) hx hb dX8_asks_69 (by decide) ?_
          refine lv_bipush (v := 10) hx hb dX8_asks_71 (by decide) ?_
          obtain ⟨r33, q34, h⟩ := ob1i h
          refine m_ci (m_rS (As := [.int r30, .int (99 : Int32), .int (10 : Int32)]) (rest := []) X w hl mi_X8_nearest ml_X8_121 (c_X8_nearest l D cy ad A Kc C0 N S V32 r30 (99 : Int32) (10 : Int32) r33 q34) ⟨⟨rfl, rfl, Nat.le_of_ble_eq_true rfl, Nat.le_of_ble_eq_true rfl⟩, Nat.le_of_ble_eq_true rfl, Nat.le_of_ble_eq_true rfl⟩ rfl rfl (Nat.le_of_ble_eq_true rfl) dX8_asks_73) w (fun H locs w => ?_)
          obtain ⟨rfl, rfl⟩ := reti h
          exact m_ri X w hr hlocks dX8_asks_76
        | succ q28 =>
          replace h := nls h
          obtain ⟨g29, h⟩ := cgi h
          have hs_q28 := tsh_of g29
          refine lv_iconst (v := 1) hx hb dX8_asks_63 (by decide) ?_
          refine lv_iload_n hx hb dX8_asks_64 rfl (lv_at hl 2 rfl) ?_
          refine lv_iload_n hx hb dX8_asks_65 rfl (lv_at hl 1 rfl) ?_
          obtain ⟨r35, V37, q36, h⟩ := obi h
          refine m_ci (m_rV (As := [.ref (ad (o + 1)), .ref (ad q28), .int (1 : Int32), .int a2, .int a1]) (rest := []) X w hl mi_X6_lastTold ml_X8_117 (o + 44) (shn hs 44 rfl) (shk hs 44 rfl : S.2.1 (o + 44) = 6) rfl (c_X6_lastTold_t l D cy ad A Kc C0 N S V (o + 44) (sb_8_44 hs) (o + 1) (sb_8_1 hs) q28 hs_q28 (1 : Int32) a2 a1 r35 V37 q36) ⟨⟨rfl, rfl, Nat.le_of_ble_eq_true rfl, Nat.le_of_ble_eq_true rfl⟩, Nat.le_of_ble_eq_true rfl, Nat.le_of_ble_eq_true rfl⟩ rfl rfl (Nat.le_of_ble_eq_true rfl) dX8_asks_66) w (fun H locs w => ?_)
          refine lv_bipush (v := 99) hx hb dX8_asks_69 (by decide) ?_
          refine lv_bipush (v := 10) hx hb dX8_asks_71 (by decide) ?_
          obtain ⟨r38, q39, h⟩ := ob1i h
          refine m_ci (m_rS (As := [.int r35, .int (99 : Int32), .int (10 : Int32)]) (rest := []) X w hl mi_X8_nearest ml_X8_121 (c_X8_nearest l D cy ad A Kc C0 N S V37 r35 (99 : Int32) (10 : Int32) r38 q39) ⟨⟨rfl, rfl, Nat.le_of_ble_eq_true rfl, Nat.le_of_ble_eq_true rfl⟩, Nat.le_of_ble_eq_true rfl, Nat.le_of_ble_eq_true rfl⟩ rfl rfl (Nat.le_of_ble_eq_true rfl) dX8_asks_73) w (fun H locs w => ?_)
          obtain ⟨rfl, rfl⟩ := reti h
          exact m_ri X w hr hlocks dX8_asks_76
      · replace h := ifF h c25
        rcases Decidable.em (a3 = (1 : Int32)) with c40 | c40
        · replace h := ifT h c40
          refine lv_lookup (tgt := 77) (off := 56) hx hb dX8_asks_21 (by decide) (by rw [c40]; rfl) (by decide) ?_
          refine lv_aload_n hx hb dX8_asks_77 rfl (lv_at hl 0 rfl) ?_
          refine m_get X w o (shn hs 0 rfl) (shk hs 0 rfl : S.2.1 o = 8) ci8 9 (by decide) (fvR (shk hs 0 rfl : S.2.1 o = 8) rfl (shq hs 0 9 rfl rfl : S.2.2.2.1 o 9 = (o + 44) + 1)) rfl fl_X8_57 dX8_asks_78 ?_
          refine lv_aload_n hx hb dX8_asks_81 rfl (lv_at hl 0 rfl) ?_
          refine m_get X w o (shn hs 0 rfl) (shk hs 0 rfl : S.2.1 o = 8) ci8 0 (by decide) (fvR (shk hs 0 rfl : S.2.1 o = 8) rfl (shq hs 0 0 rfl rfl : S.2.2.2.1 o 0 = (o + 1) + 1)) rfl fl_X8_12 dX8_asks_82 ?_
          refine lv_aload_n hx hb dX8_asks_85 rfl (lv_at hl 0 rfl) ?_
          refine m_get X w o (shn hs 0 rfl) (shk hs 0 rfl : S.2.1 o = 8) ci8 0 (by decide) (fvR (shk hs 0 rfl : S.2.1 o = 8) rfl (shq hs 0 0 rfl rfl : S.2.2.2.1 o 0 = (o + 1) + 1)) rfl fl_X8_12 dX8_asks_86 ?_
          obtain ⟨r41, q42, h⟩ := ob1i h
          refine m_cn (m_rV (As := []) (rest := [.ref (ad (o + 1)), .ref (ad (o + 44))]) X w hl mi_X0_lawInForce ml_X8_113 (o + 1) (shn hs 1 rfl) (shk hs 1 rfl : S.2.1 (o + 1) = 0) rfl (c_X0_lawInForce l D cy ad A Kc C0 N S V (o + 1) (sb_8_1 hs) r41 q42) ⟨⟨rfl, rfl, Nat.le_of_ble_eq_true rfl, Nat.le_of_ble_eq_true rfl⟩, Nat.le_of_ble_eq_true rfl, Nat.le_of_ble_eq_true rfl⟩ rfl rfl (Nat.le_of_ble_eq_true rfl) dX8_asks_89) w (fun H locs w => ?_)
          cases r41 with
          | zero =>
            replace h := nl0 h
            refine lv_iconst (v := 3) hx hb dX8_asks_92 (by decide) ?_
            refine lv_iload_n hx hb dX8_asks_93 rfl (lv_at hl 2 rfl) ?_
            refine lv_iload_n hx hb dX8_asks_94 rfl (lv_at hl 1 rfl) ?_
            obtain ⟨r45, V47, q46, h⟩ := obi h
            refine m_ci (m_rV (As := [.ref (ad (o + 1)), .null, .int (3 : Int32), .int a2, .int a1]) (rest := []) X w hl mi_X6_lastTold ml_X8_117 (o + 44) (shn hs 44 rfl) (shk hs 44 rfl : S.2.1 (o + 44) = 6) rfl (c_X6_lastTold_n l D cy ad A Kc C0 N S V (o + 44) (sb_8_44 hs) (o + 1) (sb_8_1 hs) (3 : Int32) a2 a1 r45 V47 q46) ⟨⟨rfl, rfl, Nat.le_of_ble_eq_true rfl, Nat.le_of_ble_eq_true rfl⟩, Nat.le_of_ble_eq_true rfl, Nat.le_of_ble_eq_true rfl⟩ rfl rfl (Nat.le_of_ble_eq_true rfl) dX8_asks_95) w (fun H locs w => ?_)
            refine lv_ldc (v := (-2000000000)) hx hb hown (hts _ kc_X8_125) dX8_asks_98 ?_
            refine lv_icmp_ne (tgt := 107) hx hb dX8_asks_100 (by decide) (fun c48 => ?_) (fun c48 => ?_)
            · replace h := ifF h c48
              refine lv_iconst (v := 1) hx hb dX8_asks_107 (by decide) ?_
              obtain ⟨rfl, rfl⟩ := reti h
              exact m_ri X w hr hlocks dX8_asks_108
            · replace h := ifT h c48
              refine lv_iconst (v := 0) hx hb dX8_asks_103 (by decide) ?_
              refine lv_goto (tgt := 108) hx hb dX8_asks_104 (by decide) ?_
              obtain ⟨rfl, rfl⟩ := reti h
              exact m_ri X w hr hlocks dX8_asks_108
          | succ q43 =>
            replace h := nls h
            obtain ⟨g44, h⟩ := cgi h
            have hs_q43 := tsh_of g44
            refine lv_iconst (v := 3) hx hb dX8_asks_92 (by decide) ?_
            refine lv_iload_n hx hb dX8_asks_93 rfl (lv_at hl 2 rfl) ?_
            refine lv_iload_n hx hb dX8_asks_94 rfl (lv_at hl 1 rfl) ?_
            obtain ⟨r49, V51, q50, h⟩ := obi h
            refine m_ci (m_rV (As := [.ref (ad (o + 1)), .ref (ad q43), .int (3 : Int32), .int a2, .int a1]) (rest := []) X w hl mi_X6_lastTold ml_X8_117 (o + 44) (shn hs 44 rfl) (shk hs 44 rfl : S.2.1 (o + 44) = 6) rfl (c_X6_lastTold_t l D cy ad A Kc C0 N S V (o + 44) (sb_8_44 hs) (o + 1) (sb_8_1 hs) q43 hs_q43 (3 : Int32) a2 a1 r49 V51 q50) ⟨⟨rfl, rfl, Nat.le_of_ble_eq_true rfl, Nat.le_of_ble_eq_true rfl⟩, Nat.le_of_ble_eq_true rfl, Nat.le_of_ble_eq_true rfl⟩ rfl rfl (Nat.le_of_ble_eq_true rfl) dX8_asks_95) w (fun H locs w => ?_)
            refine lv_ldc (v := (-2000000000)) hx hb hown (hts _ kc_X8_125) dX8_asks_98 ?_
            refine lv_icmp_ne (tgt := 107) hx hb dX8_asks_100 (by decide) (fun c52 => ?_) (fun c52 => ?_)
            · replace h := ifF h c52
              refine lv_iconst (v := 1) hx hb dX8_asks_107 (by decide) ?_
              obtain ⟨rfl, rfl⟩ := reti h
              exact m_ri X w hr hlocks dX8_asks_108
            · replace h := ifT h c52
              refine lv_iconst (v := 0) hx hb dX8_asks_103 (by decide) ?_
              refine lv_goto (tgt := 108) hx hb dX8_asks_104 (by decide) ?_
              obtain ⟨rfl, rfl⟩ := reti h
              exact m_ri X w hr hlocks dX8_asks_108
        · replace h := ifF h c40
          refine lv_lookup (tgt := 109) (off := 88) hx hb dX8_asks_21 (by decide) (by show Op.lookupswitch.offset [(0, 27), (1, 56)] 88 (a3).toInt = _; rw [lv_osw (a := 0) c25 (by decide)]; rw [lv_osw (a := 1) c40 (by decide)]; rfl) (by decide) ?_
          refine lv_iconst (v := (-1)) hx hb dX8_asks_109 (by decide) ?_
          obtain ⟨rfl, rfl⟩ := reti h
          exact m_ri X w hr hlocks dX8_asks_110
    · replace h := ifT h c24
      refine lv_iconst (v := (-1)) hx hb dX8_asks_18 (by decide) ?_
      obtain ⟨rfl, rfl⟩ := reti h
      exact m_ri X w hr hlocks dX8_asks_19
def f_X8_fewest_72 (N : Nat) (S : St) (o : Nat) (K6 : Vt → Int32 → Int32 → Int32 → Option (Int32 × Vt)) (V : Vt) (v1 : Int32) (v2 : Int32) (v3 : Int32) : Option (Int32 × Vt) := bd (v3 + (1 : Int32)) (fun x21 => K6 V v1 v2 x21)
def f_X8_fewest_60 (N : Nat) (S : St) (o : Nat) (K14 : Vt → Int32 → Int32 → Int32 → Int32 → Option (Int32 × Vt)) (V : Vt) (v1 : Int32) (v2 : Int32) (v3 : Int32) (v4 : Int32) : Option (Int32 × Vt) := bd (v4 + (1 : Int32)) (fun x25 => K14 V v1 v2 v3 x25)
def f_X8_fewest_54 (N : Nat) (S : St) (o : Nat) (K14 : Vt → Int32 → Int32 → Int32 → Int32 → Option (Int32 × Vt)) (V : Vt) (v1 : Int32) (v2 : Int32) (v3 : Int32) (v4 : Int32) (s0 : Int32) (s1 : Int32) : Option (Int32 × Vt) := obv (f_X2_put N S V (o + 57) s1 s0) (fun V29 => bd (v2 + (1 : Int32)) (fun x30 => f_X8_fewest_60 N S o K14 V29 v1 x30 v3 v4))
def f_X8_fewest_14 (N : Nat) (S : St) (o : Nat) (K6 : Vt → Int32 → Int32 → Int32 → Option (Int32 × Vt)) : Nat → Vt → Int32 → Int32 → Int32 → Int32 → Option (Int32 × Vt)
  | 0, _, _, _, _, _ => none
  | n + 1, V, v1, v2, v3, v4 => if (5 : Int32) ≤ v4 then if v3 = 0 then f_X8_fewest_72 N S o K6 V v2 v2 v3 else f_X8_fewest_72 N S o K6 V v1 v2 v3 else ob1 (f_X0_gap N S V (o + 1) v3 v4) (fun r22 => if r22 = 0 then f_X8_fewest_60 N S o (f_X8_fewest_14 N S o K6 n) V v1 v2 v3 v4 else if v3 = 0 then f_X8_fewest_54 N S o (f_X8_fewest_14 N S o K6 n) V v1 v2 v3 v4 r22 v2 else f_X8_fewest_54 N S o (f_X8_fewest_14 N S o K6 n) V v1 v2 v3 v4 (-r22) v2)
def f_X8_fewest_6 (N : Nat) (S : St) (o : Nat) : Nat → Vt → Int32 → Int32 → Int32 → Option (Int32 × Vt)
  | 0, _, _, _, _ => none
  | n + 1, V, v1, v2, v3 => if (2 : Int32) ≤ v3 then bd (((1 : Int32) <<< (v1 &&& 31)) - (1 : Int32)) (fun x14 => ob (f_X2_mostEven N S V (o + 57) v2 x14 ((((1 : Int32) <<< (v2 &&& 31)) - (1 : Int32)) &&& (x14 ^^^ (-1 : Int32)))) (fun r15 V17 => if r15 = (-1 : Int32) then some ((-1 : Int32), V17) else some (v2 - r15, V17))) else f_X8_fewest_14 N S o (f_X8_fewest_6 N S o n) N V v1 v2 v3 (0 : Int32)
def f_X8_fewest (N : Nat) (S : St) (V : Vt) (o : Nat) : Option (Int32 × Vt) := f_X8_fewest_6 N S o N V (0 : Int32) (0 : Int32) (0 : Int32)
set_option maxHeartbeats 4000000 in
set_option maxRecDepth 100000 in
theorem c_X8_fewest (l : Launch) (D : va_G) (cy : Nat → ClassId) (ad : Nat → Nat) (A : Nat → Prop) (Kc : State → Prop) (C0 : Cx ad A Kc) (N : Nat) (S : St) (V : Vt) (o : Nat) (hs : shp S o t8) (r : Int32) (V' : Vt) (h : f_X8_fewest N S V o = some (r, V')) : Met l yX8_fewest (mw yX8_fewest cX8_fewest 6 (some .int)) { frames := 3, cells := 0, slots := 0, locals := 92 } (PreM D cy ad Kc S V [.ref (ad o)]) (QI D cy ad A r S V') 0 0 A := by
  refine ct_go C0 (own := RX8) rfl (by decide) rfl ?_
  intro p e s m below meth c ls H locs X hr hlocks hnm hl w
  have hx := X.1.1
  have hb := X.1.2.1
  have hown := X.2.1
  have hts := X.2.2.1
  have hl : lv_has ls 6 [(0, .ref (ad o))] := hl
  obtain ⟨G, hG⟩ : ∃ G : Nat → Vt → List (Nat × Value) → List Value → Prop, G = fun pc V lv st => ∀ (H : Heap) (locs : List Loc) (ls : Array Slot), Wd D cy ad A s.heap S V H locs → lv_has ls 6 lv → W p l e { frames := 3, cells := 0, slots := 0, locals := 92 } s m ([.ref (ad o)] : List Value).toArray below meth c H locs 0 0 (MQ below (QI D cy ad A r S V') ([.ref (ad o)] : List Value).toArray s 0 0 A) (F0 m pc ls st) := ⟨_, rfl⟩
  have L6 : ∀ (n6 : Nat) (V : Vt) (v1 : Int32) (v2 : Int32) (v3 : Int32), f_X8_fewest_6 N S o n6 V v1 v2 v3 = some (r, V') → G 6 V [(0, .ref (ad o)), (1, .int v1), (2, .int v2), (3, .int v3)] [] := by
    intro n6
    induction n6 with
    | zero => intro V v1 v2 v3 h; rw [f_X8_fewest_6] at h; cases h
    | succ n6 ih6 =>
      have B72 : ∀ (V : Vt) (v1 : Int32) (v2 : Int32) (v3 : Int32), f_X8_fewest_72 N S o (f_X8_fewest_6 N S o n6) V v1 v2 v3 = some (r, V') → G 72 V [(0, .ref (ad o)), (1, .int v1), (2, .int v2), (3, .int v3)] [] := by
        intro V v1 v2 v3 h
        rw [hG]
        intro H locs ls w hl
        rw [f_X8_fewest_72] at h
        obtain ⟨x21, ex21⟩ : ∃ y : Int32, y = v3 + (1 : Int32) := ⟨_, rfl⟩
        replace h := bdi h _ ex21
        refine lv_iinc (v := x21) (lv' := [(3, .int x21), (0, .ref (ad o)), (1, .int v1), (2, .int v2)]) hx hb dX8_fewest_72 hl (k := 3) rfl (by rw [ex21]; rfl) (by decide) rfl (fun ls hl => ?_)
        refine lv_goto (tgt := 6) hx hb dX8_fewest_75 (by decide) ?_
        have g := ih6 V v1 v2 x21 h
        rw [hG] at g
        exact g H locs ls w (lv_sub hl [1, 2, 3, 0] rfl)
      have L14 : ∀ (n14 : Nat) (V : Vt) (v1 : Int32) (v2 : Int32) (v3 : Int32) (v4 : Int32), f_X8_fewest_14 N S o (f_X8_fewest_6 N S o n6) n14 V v1 v2 v3 v4 = some (r, V') → G 14 V [(0, .ref (ad o)), (1, .int v1), (2, .int v2), (3, .int v3), (4, .int v4)] [] := by
        intro n14
        induction n14 with
        | zero => intro V v1 v2 v3 v4 h; rw [f_X8_fewest_14] at h; cases h
        | succ n14 ih14 =>
          have B60 : ∀ (V : Vt) (v1 : Int32) (v2 : Int32) (v3 : Int32) (v4 : Int32), f_X8_fewest_60 N S o (f_X8_fewest_14 N S o (f_X8_fewest_6 N S o n6) n14) V v1 v2 v3 v4 = some (r, V') → G 60 V [(0, .ref (ad o)), (1, .int v1), (2, .int v2), (3, .int v3), (4, .int v4)] [] := by
            intro V v1 v2 v3 v4 h
            rw [hG]
            intro H locs ls w hl
            rw [f_X8_fewest_60] at h
            obtain ⟨x25, ex25⟩ : ∃ y : Int32, y = v4 + (1 : Int32) := ⟨_, rfl⟩
            replace h := bdi h _ ex25
            refine lv_iinc (v := x25) (lv' := [(4, .int x25), (0, .ref (ad o)), (1, .int v1), (2, .int v2), (3, .int v3)]) hx hb dX8_fewest_60 hl (k := 4) rfl (by rw [ex25]; rfl) (by decide) rfl (fun ls hl => ?_)
            refine lv_goto (tgt := 14) hx hb dX8_fewest_63 (by decide) ?_
            have g := ih14 V v1 v2 v3 x25 h
            rw [hG] at g
            exact g H locs ls w (lv_sub hl [1, 2, 3, 4, 0] rfl)
          have B54 : ∀ (V : Vt) (v1 : Int32) (v2 : Int32) (v3 : Int32) (v4 : Int32) (s0 : Int32) (s1 : Int32), f_X8_fewest_54 N S o (f_X8_fewest_14 N S o (f_X8_fewest_6 N S o n6) n14) V v1 v2 v3 v4 s0 s1 = some (r, V') → G 54 V [(0, .ref (ad o)), (1, .int v1), (2, .int v2), (3, .int v3), (4, .int v4)] [.int s0, .int s1, .ref (ad (o + 57))] := by
            intro V v1 v2 v3 v4 s0 s1 h
            rw [hG]
            intro H locs ls w hl
            rw [f_X8_fewest_54] at h
            obtain ⟨V29, q28, h⟩ := obvi h
            refine m_cv (m_rV (As := [.int s1, .int s0]) (rest := []) X w hl mi_X2_put ml_X8_208 (o + 57) (shn hs 57 rfl) (shk hs 57 rfl : S.2.1 (o + 57) = 2) rfl (c_X2_put l D cy ad A Kc C0 N S V (o + 57) (sb_8_57 hs) s1 s0 V29 q28) ⟨⟨rfl, rfl, Nat.le_of_ble_eq_true rfl, Nat.le_of_ble_eq_true rfl⟩, Nat.le_of_ble_eq_true rfl, Nat.le_of_ble_eq_true rfl⟩ rfl rfl (Nat.le_of_ble_eq_true rfl) dX8_fewest_54) w (fun H locs w => ?_)
            obtain ⟨x30, ex30⟩ : ∃ y : Int32, y = v2 + (1 : Int32) := ⟨_, rfl⟩
            replace h := bdi h _ ex30
            refine lv_iinc (v := x30) (lv' := [(2, .int x30), (0, .ref (ad o)), (1, .int v1), (3, .int v3), (4, .int v4)]) hx hb dX8_fewest_57 hl (k := 2) rfl (by rw [ex30]; rfl) (by decide) rfl (fun ls hl => ?_)
            have g := B60 V29 v1 x30 v3 v4 h
            rw [hG] at g
            exact g H locs ls w (lv_sub hl [1, 2, 0, 3, 4] rfl)
          intro V v1 v2 v3 v4 h
          rw [hG]
          intro H locs ls w hl
          rw [f_X8_fewest_14] at h
          refine lv_iload hx hb dX8_fewest_14 (lv_at hl 4 rfl) ?_
          refine lv_iconst (v := 5) hx hb dX8_fewest_16 (by decide) ?_
          refine lv_icmp_ge (tgt := 66) hx hb dX8_fewest_17 (by decide) (fun c19 => ?_) (fun c19 => ?_)
          · replace h := ifT h c19
            refine lv_iload_n hx hb dX8_fewest_66 rfl (lv_at hl 3 rfl) ?_
            refine lv_if_ne (tgt := 72) hx hb dX8_fewest_67 (by decide) (fun c20 => ?_) (fun c20 => ?_)
            · replace h := ifF h c20
              have g := B72 V v1 v2 v3 h
              rw [hG] at g
              exact g H locs ls w (lv_sub hl [0, 1, 2, 3] rfl)
            · replace h := ifT h c20
              refine lv_iload_n hx hb dX8_fewest_70 rfl (lv_at hl 2 rfl) ?_
              refine lv_istore_n (lv' := [(1, .int v2), (0, .ref (ad o)), (2, .int v2), (3, .int v3), (4, .int v4)]) hx hb dX8_fewest_71 rfl hl (by decide) rfl (fun ls hl => ?_)
              have g := B72 V v2 v2 v3 h
              rw [hG] at g
              exact g H locs ls w (lv_sub hl [1, 0, 2, 3] rfl)
          · replace h := ifF h c19
            refine lv_aload_n hx hb dX8_fewest_20 rfl (lv_at hl 0 rfl) ?_
            refine m_get X w o (shn hs 0 rfl) (shk hs 0 rfl : S.2.1 o = 8) ci8 0 (by decide) (fvR (shk hs 0 rfl : S.2.1 o = 8) rfl (shq hs 0 0 rfl rfl : S.2.2.2.1 o 0 = (o + 1) + 1)) rfl fl_X8_12 dX8_fewest_21 ?_
            refine lv_iload_n hx hb dX8_fewest_24 rfl (lv_at hl 3 rfl) ?_
            refine lv_iload hx hb dX8_fewest_25 (lv_at hl 4 rfl) ?_
            obtain ⟨r22, q23, h⟩ := ob1i h
            refine m_ci (m_rV (As := [.int v3, .int v4]) (rest := []) X w hl mi_X0_gap ml_X8_133 (o + 1) (shn hs 1 rfl) (shk hs 1 rfl : S.2.1 (o + 1) = 0) rfl (c_X0_gap l D cy ad A Kc C0 N S V (o + 1) (sb_8_1 hs) v3 v4 r22 q23) ⟨⟨rfl, rfl, Nat.le_of_ble_eq_true rfl, Nat.le_of_ble_eq_true rfl⟩, Nat.le_of_ble_eq_true rfl, Nat.le_of_ble_eq_true rfl⟩ rfl rfl (Nat.le_of_ble_eq_true rfl) dX8_fewest_27) w (fun H locs w => ?_)
            refine lv_istore (lv' := [(5, .int r22), (0, .ref (ad o)), (1, .int v1), (2, .int v2), (3, .int v3), (4, .int v4)]) hx hb dX8_fewest_30 hl (by decide) rfl (fun ls hl => ?_)
            refine lv_iload hx hb dX8_fewest_32 (lv_at hl 0 rfl) ?_
            refine lv_if_eq (tgt := 60) hx hb dX8_fewest_34 (by decide) (fun c24 => ?_) (fun c24 => ?_)
            · replace h := ifT h c24
              have g := B60 V v1 v2 v3 v4 h
              rw [hG] at g
              exact g H locs ls w (lv_sub hl [1, 2, 3, 4, 5] rfl)
            · replace h := ifF h c24
              refine lv_aload_n hx hb dX8_fewest_37 rfl (lv_at hl 1 rfl) ?_
              refine m_get X w o (shn hs 0 rfl) (shk hs 0 rfl : S.2.1 o = 8) ci8 11 (by decide) (fvR (shk hs 0 rfl : S.2.1 o = 8) rfl (shq hs 0 11 rfl rfl : S.2.2.2.1 o 11 = (o + 57) + 1)) rfl fl_X8_71 dX8_fewest_38 ?_
              refine lv_iload_n hx hb dX8_fewest_41 rfl (lv_at hl 3 rfl) ?_
              refine lv_iload_n hx hb dX8_fewest_42 rfl (lv_at hl 4 rfl) ?_
              refine lv_if_ne (tgt := 51) hx hb dX8_fewest_43 (by decide) (fun c26 => ?_) (fun c26 => ?_)
              · replace h := ifF h c26
                refine lv_iload hx hb dX8_fewest_51 (lv_at hl 0 rfl) ?_
                refine lv_ineg hx hb dX8_fewest_53 ?_
                have g := B54 V v1 v2 v3 v4 (-r22) v2 h
                rw [hG] at g
                exact g H locs ls w (lv_sub hl [1, 2, 3, 4, 5] rfl)
              · replace h := ifT h c26
                refine lv_iload hx hb dX8_fewest_46 (lv_at hl 0 rfl) ?_
                refine lv_goto (tgt := 54) hx hb dX8_fewest_48 (by decide) ?_
                have g := B54 V v1 v2 v3 v4 r22 v2 h
                rw [hG] at g
                exact g H locs ls w (lv_sub hl [1, 2, 3, 4, 5] rfl)
      intro V v1 v2 v3 h
      rw [hG]
      intro H locs ls w hl
      rw [f_X8_fewest_6] at h
      refine lv_iload_n hx hb dX8_fewest_6 rfl (lv_at hl 3 rfl) ?_
      refine lv_iconst (v := 2) hx hb dX8_fewest_7 (by decide) ?_
      refine lv_icmp_ge (tgt := 78) hx hb dX8_fewest_8 (by decide) (fun c13 => ?_) (fun c13 => ?_)
      · replace h := ifT h c13
        refine lv_iconst (v := 1) hx hb dX8_fewest_78 (by decide) ?_
        refine lv_iload_n hx hb dX8_fewest_79 rfl (lv_at hl 1 rfl) ?_
        refine lv_ishl hx hb dX8_fewest_80 ?_
        refine lv_iconst (v := 1) hx hb dX8_fewest_81 (by decide) ?_
        refine lv_isub hx hb dX8_fewest_82 ?_
        refine lv_topi (fun x14 ex14 => ?_)
        replace h := bdi h _ ex14
        refine lv_istore_n (lv' := [(3, .int x14), (0, .ref (ad o)), (1, .int v1), (2, .int v2)]) hx hb dX8_fewest_83 rfl hl (by decide) rfl (fun ls hl => ?_)
        refine lv_aload_n hx hb dX8_fewest_84 rfl (lv_at hl 1 rfl) ?_
        refine m_get X w o (shn hs 0 rfl) (shk hs 0 rfl : S.2.1 o = 8) ci8 11 (by decide) (fvR (shk hs 0 rfl : S.2.1 o = 8) rfl (shq hs 0 11 rfl rfl : S.2.2.2.1 o 11 = (o + 57) + 1)) rfl fl_X8_71 dX8_fewest_85 ?_
        refine lv_iload_n hx hb dX8_fewest_88 rfl (lv_at hl 3 rfl) ?_
        refine lv_iload_n hx hb dX8_fewest_89 rfl (lv_at hl 0 rfl) ?_
        refine lv_iconst (v := 1) hx hb dX8_fewest_90 (by decide) ?_
        refine lv_iload_n hx hb dX8_fewest_91 rfl (lv_at hl 3 rfl) ?_
        refine lv_ishl hx hb dX8_fewest_92 ?_
        refine lv_iconst (v := 1) hx hb dX8_fewest_93 (by decide) ?_
        refine lv_isub hx hb dX8_fewest_94 ?_
        refine lv_iload_n hx hb dX8_fewest_95 rfl (lv_at hl 0 rfl) ?_
        refine lv_iconst (v := (-1)) hx hb dX8_fewest_96 (by decide) ?_
        refine lv_ixor hx hb dX8_fewest_97 ?_
        refine lv_iand hx hb dX8_fewest_98 ?_
        obtain ⟨r15, V17, q16, h⟩ := obi h
        refine m_ci (m_rV (As := [.int v2, .int x14, .int ((((1 : Int32) <<< (v2 &&& 31)) - (1 : Int32)) &&& (x14 ^^^ (-1 : Int32)))]) (rest := []) X w hl mi_X2_mostEven ml_X8_212 (o + 57) (shn hs 57 rfl) (shk hs 57 rfl : S.2.1 (o + 57) = 2) rfl (c_X2_mostEven l D cy ad A Kc C0 N S V (o + 57) (sb_8_57 hs) v2 x14 ((((1 : Int32) <<< (v2 &&& 31)) - (1 : Int32)) &&& (x14 ^^^ (-1 : Int32))) r15 V17 q16) ⟨⟨rfl, rfl, Nat.le_of_ble_eq_true rfl, Nat.le_of_ble_eq_true rfl⟩, Nat.le_of_ble_eq_true rfl, Nat.le_of_ble_eq_true rfl⟩ rfl rfl (Nat.le_of_ble_eq_true rfl) dX8_fewest_99) w (fun H locs w => ?_)
        refine lv_istore (lv' := [(4, .int r15), (3, .int x14), (0, .ref (ad o)), (1, .int v1), (2, .int v2)]) hx hb dX8_fewest_102 hl (by decide) rfl (fun ls hl => ?_)
        refine lv_iload hx hb dX8_fewest_104 (lv_at hl 0 rfl) ?_
        refine lv_iconst (v := (-1)) hx hb dX8_fewest_106 (by decide) ?_
        refine lv_icmp_ne (tgt := 114) hx hb dX8_fewest_107 (by decide) (fun c18 => ?_) (fun c18 => ?_)
        · replace h := ifF h c18
          refine lv_iload_n hx hb dX8_fewest_114 rfl (lv_at hl 4 rfl) ?_
          refine lv_iload hx hb dX8_fewest_115 (lv_at hl 0 rfl) ?_
          refine lv_isub hx hb dX8_fewest_117 ?_
          obtain ⟨rfl, rfl⟩ := reti h
          exact m_ri X w hr hlocks dX8_fewest_118
        · replace h := ifT h c18
          refine lv_iconst (v := (-1)) hx hb dX8_fewest_110 (by decide) ?_
          refine lv_goto (tgt := 118) hx hb dX8_fewest_111 (by decide) ?_
          obtain ⟨rfl, rfl⟩ := reti h
          exact m_ri X w hr hlocks dX8_fewest_118
      · replace h := ifF h c13
        refine lv_iconst (v := 0) hx hb dX8_fewest_11 (by decide) ?_
        refine lv_istore (lv' := [(4, .int (0 : Int32)), (0, .ref (ad o)), (1, .int v1), (2, .int v2), (3, .int v3)]) hx hb dX8_fewest_12 hl (by decide) rfl (fun ls hl => ?_)
        have g := L14 N V v1 v2 v3 (0 : Int32) h
        rw [hG] at g
        exact g H locs ls w (lv_sub hl [1, 2, 3, 4, 0] rfl)
  rw [f_X8_fewest] at h
  refine lv_iconst (v := 0) hx hb dX8_fewest_0 (by decide) ?_
  refine lv_istore_n (lv' := [(1, .int (0 : Int32)), (0, .ref (ad o))]) hx hb dX8_fewest_1 rfl hl (by decide) rfl (fun ls hl => ?_)
  refine lv_iconst (v := 0) hx hb dX8_fewest_2 (by decide) ?_
  refine lv_istore_n (lv' := [(2, .int (0 : Int32)), (1, .int (0 : Int32)), (0, .ref (ad o))]) hx hb dX8_fewest_3 rfl hl (by decide) rfl (fun ls hl => ?_)
  refine lv_iconst (v := 0) hx hb dX8_fewest_4 (by decide) ?_
  refine lv_istore_n (lv' := [(3, .int (0 : Int32)), (2, .int (0 : Int32)), (1, .int (0 : Int32)), (0, .ref (ad o))]) hx hb dX8_fewest_5 rfl hl (by decide) rfl (fun ls hl => ?_)
  have g := L6 N V (0 : Int32) (0 : Int32) (0 : Int32) h
  rw [hG] at g
  exact g H locs ls w (lv_sub hl [3, 2, 1, 0] rfl)
def f_X8_settled_34 (N : Nat) (S : St) (o : Nat) (K4 : Vt → Int32 → Int32 → Option (Int32 × Vt)) (V : Vt) (v1 : Int32) (v2 : Int32) : Option (Int32 × Vt) := bd (v2 + (1 : Int32)) (fun x20 => K4 V v1 x20)
def f_X8_settled_4 (N : Nat) (S : St) (o : Nat) : Nat → Vt → Int32 → Int32 → Option (Int32 × Vt)
  | 0, _, _, _ => none
  | n + 1, V, v1, v2 => if (5 : Int32) ≤ v2 then bd (((1 : Int32) <<< (v1 &&& 31)) - (1 : Int32)) (fun x13 => ob (f_X2_mostEven N S V (o + 57) v1 x13 x13) (fun r14 V16 => some (v1 - r14, V16))) else ob1 (f_X0_balanceOf N S V (o + 1) v2) (fun r17 => if r17 = 0 then f_X8_settled_34 N S o (f_X8_settled_4 N S o n) V v1 v2 else obv (f_X2_put N S V (o + 57) v1 r17) (fun V23 => bd (v1 + (1 : Int32)) (fun x24 => f_X8_settled_34 N S o (f_X8_settled_4 N S o n) V23 x24 v2)))
def f_X8_settled (N : Nat) (S : St) (V : Vt) (o : Nat) : Option (Int32 × Vt) := f_X8_settled_4 N S o N V (0 : Int32) (0 : Int32)
set_option maxHeartbeats 4000000 in
set_option maxRecDepth 100000 in
theorem c_X8_settled (l : Launch) (D : va_G) (cy : Nat → ClassId) (ad : Nat → Nat) (A : Nat → Prop) (Kc : State → Prop) (C0 : Cx ad A Kc) (N : Nat) (S : St) (V : Vt) (o : Nat) (hs : shp S o t8) (r : Int32) (V' : Vt) (h : f_X8_settled N S V o = some (r, V')) : Met l yX8_settled (mw yX8_settled cX8_settled 4 (some .int)) { frames := 3, cells := 0, slots := 0, locals := 92 } (PreM D cy ad Kc S V [.ref (ad o)]) (QI D cy ad A r S V') 0 0 A := by
  refine ct_go C0 (own := RX8) rfl (by decide) rfl ?_
  intro p e s m below meth c ls H locs X hr hlocks hnm hl w
  have hx := X.1.1
  have hb := X.1.2.1
  have hown := X.2.1
  have hts := X.2.2.1
  have hl : lv_has ls 4 [(0, .ref (ad o))] := hl
  obtain ⟨G, hG⟩ : ∃ G : Nat → Vt → List (Nat × Value) → List Value → Prop, G = fun pc V lv st => ∀ (H : Heap) (locs : List Loc) (ls : Array Slot), Wd D cy ad A s.heap S V H locs → lv_has ls 4 lv → W p l e { frames := 3, cells := 0, slots := 0, locals := 92 } s m ([.ref (ad o)] : List Value).toArray below meth c H locs 0 0 (MQ below (QI D cy ad A r S V') ([.ref (ad o)] : List Value).toArray s 0 0 A) (F0 m pc ls st) := ⟨_, rfl⟩
  have L4 : ∀ (n4 : Nat) (V : Vt) (v1 : Int32) (v2 : Int32), f_X8_settled_4 N S o n4 V v1 v2 = some (r, V') → G 4 V [(0, .ref (ad o)), (1, .int v1), (2, .int v2)] [] := by
    intro n4
    induction n4 with
    | zero => intro V v1 v2 h; rw [f_X8_settled_4] at h; cases h
    | succ n4 ih4 =>
      have B34 : ∀ (V : Vt) (v1 : Int32) (v2 : Int32), f_X8_settled_34 N S o (f_X8_settled_4 N S o n4) V v1 v2 = some (r, V') → G 34 V [(0, .ref (ad o)), (1, .int v1), (2, .int v2)] [] := by
        intro V v1 v2 h
        rw [hG]
        intro H locs ls w hl
        rw [f_X8_settled_34] at h
        obtain ⟨x20, ex20⟩ : ∃ y : Int32, y = v2 + (1 : Int32) := ⟨_, rfl⟩
        replace h := bdi h _ ex20
        refine lv_iinc (v := x20) (lv' := [(2, .int x20), (0, .ref (ad o)), (1, .int v1)]) hx hb dX8_settled_34 hl (k := 2) rfl (by rw [ex20]; rfl) (by decide) rfl (fun ls hl => ?_)
        refine lv_goto (tgt := 4) hx hb dX8_settled_37 (by decide) ?_
        have g := ih4 V v1 x20 h
        rw [hG] at g
        exact g H locs ls w (lv_sub hl [1, 2, 0] rfl)
      intro V v1 v2 h
      rw [hG]
      intro H locs ls w hl
      rw [f_X8_settled_4] at h
      refine lv_iload_n hx hb dX8_settled_4 rfl (lv_at hl 2 rfl) ?_
      refine lv_iconst (v := 5) hx hb dX8_settled_5 (by decide) ?_
      refine lv_icmp_ge (tgt := 40) hx hb dX8_settled_6 (by decide) (fun c12 => ?_) (fun c12 => ?_)
      · replace h := ifT h c12
        refine lv_iconst (v := 1) hx hb dX8_settled_40 (by decide) ?_
        refine lv_iload_n hx hb dX8_settled_41 rfl (lv_at hl 1 rfl) ?_
        refine lv_ishl hx hb dX8_settled_42 ?_
        refine lv_iconst (v := 1) hx hb dX8_settled_43 (by decide) ?_
        refine lv_isub hx hb dX8_settled_44 ?_
        refine lv_topi (fun x13 ex13 => ?_)
        replace h := bdi h _ ex13
        refine lv_istore_n (lv' := [(2, .int x13), (0, .ref (ad o)), (1, .int v1)]) hx hb dX8_settled_45 rfl hl (by decide) rfl (fun ls hl => ?_)
        refine lv_iload_n hx hb dX8_settled_46 rfl (lv_at hl 2 rfl) ?_
        refine lv_aload_n hx hb dX8_settled_47 rfl (lv_at hl 1 rfl) ?_
        refine m_get X w o (shn hs 0 rfl) (shk hs 0 rfl : S.2.1 o = 8) ci8 11 (by decide) (fvR (shk hs 0 rfl : S.2.1 o = 8) rfl (shq hs 0 11 rfl rfl : S.2.2.2.1 o 11 = (o + 57) + 1)) rfl fl_X8_71 dX8_settled_48 ?_
        refine lv_iload_n hx hb dX8_settled_51 rfl (lv_at hl 2 rfl) ?_
        refine lv_iload_n hx hb dX8_settled_52 rfl (lv_at hl 0 rfl) ?_
        refine lv_iload_n hx hb dX8_settled_53 rfl (lv_at hl 0 rfl) ?_
        obtain ⟨r14, V16, q15, h⟩ := obi h
        refine m_ci (m_rV (As := [.int v1, .int x13, .int x13]) (rest := [.int v1]) X w hl mi_X2_mostEven ml_X8_212 (o + 57) (shn hs 57 rfl) (shk hs 57 rfl : S.2.1 (o + 57) = 2) rfl (c_X2_mostEven l D cy ad A Kc C0 N S V (o + 57) (sb_8_57 hs) v1 x13 x13 r14 V16 q15) ⟨⟨rfl, rfl, Nat.le_of_ble_eq_true rfl, Nat.le_of_ble_eq_true rfl⟩, Nat.le_of_ble_eq_true rfl, Nat.le_of_ble_eq_true rfl⟩ rfl rfl (Nat.le_of_ble_eq_true rfl) dX8_settled_54) w (fun H locs w => ?_)
        refine lv_isub hx hb dX8_settled_57 ?_
        obtain ⟨rfl, rfl⟩ := reti h
        exact m_ri X w hr hlocks dX8_settled_58
      · replace h := ifF h c12
        refine lv_aload_n hx hb dX8_settled_9 rfl (lv_at hl 0 rfl) ?_
        refine m_get X w o (shn hs 0 rfl) (shk hs 0 rfl : S.2.1 o = 8) ci8 0 (by decide) (fvR (shk hs 0 rfl : S.2.1 o = 8) rfl (shq hs 0 0 rfl rfl : S.2.2.2.1 o 0 = (o + 1) + 1)) rfl fl_X8_12 dX8_settled_10 ?_
        refine lv_iload_n hx hb dX8_settled_13 rfl (lv_at hl 2 rfl) ?_
        obtain ⟨r17, q18, h⟩ := ob1i h
        refine m_ci (m_rV (As := [.int v2]) (rest := []) X w hl mi_X0_balanceOf ml_X8_276 (o + 1) (shn hs 1 rfl) (shk hs 1 rfl : S.2.1 (o + 1) = 0) rfl (c_X0_balanceOf l D cy ad A Kc C0 N S V (o + 1) (sb_8_1 hs) v2 r17 q18) ⟨⟨rfl, rfl, Nat.le_of_ble_eq_true rfl, Nat.le_of_ble_eq_true rfl⟩, Nat.le_of_ble_eq_true rfl, Nat.le_of_ble_eq_true rfl⟩ rfl rfl (Nat.le_of_ble_eq_true rfl) dX8_settled_14) w (fun H locs w => ?_)
        refine lv_istore_n (lv' := [(3, .int r17), (0, .ref (ad o)), (1, .int v1), (2, .int v2)]) hx hb dX8_settled_17 rfl hl (by decide) rfl (fun ls hl => ?_)
        refine lv_iload_n hx hb dX8_settled_18 rfl (lv_at hl 0 rfl) ?_
        refine lv_if_eq (tgt := 34) hx hb dX8_settled_19 (by decide) (fun c19 => ?_) (fun c19 => ?_)
        · replace h := ifT h c19
          have g := B34 V v1 v2 h
          rw [hG] at g
          exact g H locs ls w (lv_sub hl [1, 2, 3] rfl)
        · replace h := ifF h c19
          refine lv_aload_n hx hb dX8_settled_22 rfl (lv_at hl 1 rfl) ?_
          refine m_get X w o (shn hs 0 rfl) (shk hs 0 rfl : S.2.1 o = 8) ci8 11 (by decide) (fvR (shk hs 0 rfl : S.2.1 o = 8) rfl (shq hs 0 11 rfl rfl : S.2.2.2.1 o 11 = (o + 57) + 1)) rfl fl_X8_71 dX8_settled_23 ?_
          refine lv_iload_n hx hb dX8_settled_26 rfl (lv_at hl 2 rfl) ?_
          refine lv_iload_n hx hb dX8_settled_27 rfl (lv_at hl 0 rfl) ?_
          obtain ⟨V23, q22, h⟩ := obvi h
          refine m_cv (m_rV (As := [.int v1, .int r17]) (rest := []) X w hl mi_X2_put ml_X8_208 (o + 57) (shn hs 57 rfl) (shk hs 57 rfl : S.2.1 (o + 57) = 2) rfl (c_X2_put l D cy ad A Kc C0 N S V (o + 57) (sb_8_57 hs) v1 r17 V23 q22) ⟨⟨rfl, rfl, Nat.le_of_ble_eq_true rfl, Nat.le_of_ble_eq_true rfl⟩, Nat.le_of_ble_eq_true rfl, Nat.le_of_ble_eq_true rfl⟩ rfl rfl (Nat.le_of_ble_eq_true rfl) dX8_settled_28) w (fun H locs w => ?_)
          obtain ⟨x24, ex24⟩ : ∃ y : Int32, y = v1 + (1 : Int32) := ⟨_, rfl⟩
          replace h := bdi h _ ex24
          refine lv_iinc (v := x24) (lv' := [(1, .int x24), (3, .int r17), (0, .ref (ad o)), (2, .int v2)]) hx hb dX8_settled_31 hl (k := 2) rfl (by rw [ex24]; rfl) (by decide) rfl (fun ls hl => ?_)
          have g := B34 V23 x24 v2 h
          rw [hG] at g
          exact g H locs ls w (lv_sub hl [2, 0, 3] rfl)
  rw [f_X8_settled] at h
  refine lv_iconst (v := 0) hx hb dX8_settled_0 (by decide) ?_
  refine lv_istore_n (lv' := [(1, .int (0 : Int32)), (0, .ref (ad o))]) hx hb dX8_settled_1 rfl hl (by decide) rfl (fun ls hl => ?_)
  refine lv_iconst (v := 0) hx hb dX8_settled_2 (by decide) ?_
  refine lv_istore_n (lv' := [(2, .int (0 : Int32)), (1, .int (0 : Int32)), (0, .ref (ad o))]) hx hb dX8_settled_3 rfl hl (by decide) rfl (fun ls hl => ?_)
  have g := L4 N V (0 : Int32) (0 : Int32) h
  rw [hG] at g
  exact g H locs ls w (lv_sub hl [2, 1, 0] rfl)
