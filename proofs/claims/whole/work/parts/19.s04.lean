def f_X8_terms_22 (N : Nat) (S : St) (o : Nat) (V : Vt) : Option (Int32 × Vt) := ob (f_X8_refused N S V o (-1 : Int32)) (fun r22 V24 => some (r22, V24))
def f_X8_terms (N : Nat) (S : St) (V : Vt) (o : Nat) (a1 : Int32) (a2 : Int32) : Option (Int32 × Vt) := ob1 (f_X8_isWithin N a1 (0 : Int32) (2 : Int32)) (fun r19 => if r19 = 0 then f_X8_terms_22 N S o V  else ck a1 3 (ob1 (f_X8_isWithin N a2 (0 : Int32) (tMost.getD a1.toNatClampNeg 0)) (fun r26 => if r26 = 0 then f_X8_terms_22 N S o V  else ck a1 3 (bd (V.2.1 (o + 7) a1.toNatClampNeg) (fun x30 => ck a1 3 (bd (sA V (o + 7) a1.toNatClampNeg a2) (fun V32 => obv (f_X1_clear N S V32 (o + 32)) (fun V35 => ob (f_X8_granted N S V35 o x30) (fun r36 V38 => some (r36, V38))))))))))
set_option maxHeartbeats 4000000 in
set_option maxRecDepth 100000 in
theorem c_X8_terms (l : Launch) (D : va_G) (cy : Nat → ClassId) (ad : Nat → Nat) (A : Nat → Prop) (aK aV : Nat → Nat) (C0 : Cx ad A (KX A aK aV)) (N : Nat) (S : St) (V : Vt) (o : Nat) (hs : shp S o t8) (a1 : Int32) (a2 : Int32) (r : Int32) (V' : Vt) (h : f_X8_terms N S V o a1 a2 = some (r, V')) : Met l yX8_terms (mw yX8_terms cX8_terms 4 (some .int)) { frames := 1, cells := 0, slots := 0, locals := 22 } (PreM D cy ad (KX A aK aV) S V [.ref (ad o), .int a1, .int a2]) (QI D cy ad A r S V') 0 0 A := by
  refine ct_goK C0 (own := RX8) rfl (by decide) rfl ?_
  intro p e s m below meth c ls H locs hKc X hr hlocks hnm hl w
  have hx := X.1.1
  have hb := X.1.2.1
  have hown := X.2.1
  have hts := X.2.2.1
  have hl : lv_has ls 4 [(0, .ref (ad o)), (1, .int a1), (2, .int a2)] := hl
  obtain ⟨G, hG⟩ : ∃ G : Nat → Vt → List (Nat × Value) → List Value → Prop, G = fun pc V lv st => ∀ (H : Heap) (locs : List Loc) (ls : Array Slot), Wd D cy ad A s.heap S V H locs → lv_has ls 4 lv → W p l e { frames := 1, cells := 0, slots := 0, locals := 22 } s m ([.ref (ad o), .int a1, .int a2] : List Value).toArray below meth c H locs 0 0 (MQ below (QI D cy ad A r S V') ([.ref (ad o), .int a1, .int a2] : List Value).toArray s 0 0 A) (F0 m pc ls st) := ⟨_, rfl⟩
  have B22 : ∀ (V : Vt), f_X8_terms_22 N S o V  = some (r, V') → G 22 V [(0, .ref (ad o))] [] := by
    intro V  h
    rw [hG]
    intro H locs ls w hl
    rw [f_X8_terms_22] at h
    refine lv_aload_n hx hb dX8_terms_22 rfl (lv_at hl 0 rfl) ?_
    refine lv_iconst (v := (-1)) hx hb dX8_terms_23 (by decide) ?_
    obtain ⟨r22, V24, q23, h⟩ := obi h
    refine m_ci (m_rV (As := [.int (-1 : Int32)]) (rest := []) X w hl mi_X8_refused ml_X8_97 o (shn hs 0 rfl) (shk hs 0 rfl : S.2.1 o = 8) rfl (c_X8_refused l D cy ad A (KX A aK aV) C0 N S V o hs (-1 : Int32) r22 V24 q23) ⟨⟨rfl, rfl, Nat.le_of_ble_eq_true rfl, Nat.le_of_ble_eq_true rfl⟩, Nat.le_of_ble_eq_true rfl, Nat.le_of_ble_eq_true rfl⟩ rfl rfl (Nat.le_of_ble_eq_true rfl) dX8_terms_24) w (fun H locs w => ?_)
    obtain ⟨rfl, rfl⟩ := reti h
    exact m_ri X w hr hlocks dX8_terms_27
  rw [f_X8_terms] at h
  refine lv_iload_n hx hb dX8_terms_0 rfl (lv_at hl 1 rfl) ?_
  refine lv_iconst (v := 0) hx hb dX8_terms_1 (by decide) ?_
  refine lv_iconst (v := 2) hx hb dX8_terms_2 (by decide) ?_
  obtain ⟨r19, q20, h⟩ := ob1i h
  refine m_ci (m_rS (As := [.int a1, .int (0 : Int32), .int (2 : Int32)]) (rest := []) X w hl mi_X8_isWithin ml_X8_93 (c_X8_isWithin l D cy ad A (KX A aK aV) C0 N S V a1 (0 : Int32) (2 : Int32) r19 q20) ⟨⟨rfl, rfl, Nat.le_of_ble_eq_true rfl, Nat.le_of_ble_eq_true rfl⟩, Nat.le_of_ble_eq_true rfl, Nat.le_of_ble_eq_true rfl⟩ rfl rfl (Nat.le_of_ble_eq_true rfl) dX8_terms_3) w (fun H locs w => ?_)
  refine lv_if_eq (tgt := 22) hx hb dX8_terms_6 (by decide) (fun c21 => ?_) (fun c21 => ?_)
  · replace h := ifT h c21
    have g := B22 V  h
    rw [hG] at g
    exact g H locs ls w (lv_sub hl [0] rfl)
  · replace h := ifF h c21
    refine lv_iload_n hx hb dX8_terms_9 rfl (lv_at hl 2 rfl) ?_
    refine lv_iconst (v := 0) hx hb dX8_terms_10 (by decide) ?_
    obtain ⟨tM, hZM, hTM⟩ := hKc.2.2.2.2.1
    refine va_gets hx hb hZM w.2 hown (hts _ fl_X8_153) (fun _ h9 => h9) dX8_terms_11 ?_
    refine lv_iload_n hx hb dX8_terms_14 rfl (lv_at hl 1 rfl) ?_
    obtain ⟨g25, h⟩ := cki h
    refine va_ti hx hb hTM w.2 g25 rfl dX8_terms_15 ?_
    obtain ⟨r26, q27, h⟩ := ob1i h
    refine m_ci (m_rS (As := [.int a2, .int (0 : Int32), .int (tMost.getD a1.toNatClampNeg 0)]) (rest := []) X w hl mi_X8_isWithin ml_X8_93 (c_X8_isWithin l D cy ad A (KX A aK aV) C0 N S V a2 (0 : Int32) (tMost.getD a1.toNatClampNeg 0) r26 q27) ⟨⟨rfl, rfl, Nat.le_of_ble_eq_true rfl, Nat.le_of_ble_eq_true rfl⟩, Nat.le_of_ble_eq_true rfl, Nat.le_of_ble_eq_true rfl⟩ rfl rfl (Nat.le_of_ble_eq_true rfl) dX8_terms_16) w (fun H locs w => ?_)
    refine lv_if_ne (tgt := 28) hx hb dX8_terms_19 (by decide) (fun c28 => ?_) (fun c28 => ?_)
    · replace h := ifF h c28
      refine lv_aload_n hx hb dX8_terms_28 rfl (lv_at hl 0 rfl) ?_
      refine m_get X w o (shn hs 0 rfl) (shk hs 0 rfl : S.2.1 o = 8) ci8 0 (by decide) (fvR (shk hs 0 rfl : S.2.1 o = 8) rfl (shq hs 0 0 rfl rfl : S.2.2.2.1 o 0 = (o + 1) + 1)) rfl fl_X8_12 dX8_terms_29 ?_
      refine m_getN X w (o + 1) (shn hs 1 rfl) (shk hs 1 rfl : S.2.1 (o + 1) = 0) ci0 5 (by decide) (fvR (shk hs 1 rfl : S.2.1 (o + 1) = 0) rfl (shq hs 1 5 rfl rfl : S.2.2.2.1 (o + 1) 5 = (o + 7) + 1)) rfl nf_X8_156 dX8_terms_32 ?_
      refine lv_iload_n hx hb dX8_terms_35 rfl (lv_at hl 1 rfl) ?_
      obtain ⟨g29, h⟩ := cki h
      refine m_iald X w (o + 7) (shn hs 7 rfl) (shk hs 7 rfl : S.2.1 (o + 7) = 11) (shz hs 7 rfl : S.2.2.1 (o + 7) = 3) g29 dX8_terms_36 ?_
      refine lv_topi (fun x30 ex30 => ?_)
      replace h := bdi h _ ex30
      refine lv_istore_n (lv' := [(3, .int x30), (0, .ref (ad o)), (1, .int a1), (2, .int a2)]) hx hb dX8_terms_37 rfl hl (by decide) rfl (fun ls hl => ?_)
      refine lv_aload_n hx hb dX8_terms_38 rfl (lv_at hl 1 rfl) ?_
      refine m_get X w o (shn hs 0 rfl) (shk hs 0 rfl : S.2.1 o = 8) ci8 0 (by decide) (fvR (shk hs 0 rfl : S.2.1 o = 8) rfl (shq hs 0 0 rfl rfl : S.2.2.2.1 o 0 = (o + 1) + 1)) rfl fl_X8_12 dX8_terms_39 ?_
      refine m_getN X w (o + 1) (shn hs 1 rfl) (shk hs 1 rfl : S.2.1 (o + 1) = 0) ci0 5 (by decide) (fvR (shk hs 1 rfl : S.2.1 (o + 1) = 0) rfl (shq hs 1 5 rfl rfl : S.2.2.2.1 (o + 1) 5 = (o + 7) + 1)) rfl nf_X8_156 dX8_terms_42 ?_
      refine lv_iload_n hx hb dX8_terms_45 rfl (lv_at hl 2 rfl) ?_
      refine lv_iload_n hx hb dX8_terms_46 rfl (lv_at hl 3 rfl) ?_
      obtain ⟨g31, h⟩ := cki h
      refine m_iast X w (o + 7) (shn hs 7 rfl) (shk hs 7 rfl : S.2.1 (o + 7) = 11) (shz hs 7 rfl : S.2.2.1 (o + 7) = 3) g31 dX8_terms_47 (fun V32 H locs eV32 w => ?_)
      replace h := bdi h _ eV32
      refine lv_aload_n hx hb dX8_terms_48 rfl (lv_at hl 1 rfl) ?_
      refine m_get X w o (shn hs 0 rfl) (shk hs 0 rfl : S.2.1 o = 8) ci8 4 (by decide) (fvR (shk hs 0 rfl : S.2.1 o = 8) rfl (shq hs 0 4 rfl rfl : S.2.2.2.1 o 4 = (o + 32) + 1)) rfl fl_X8_29 dX8_terms_49 ?_
      obtain ⟨V35, q34, h⟩ := obvi h
      refine m_cv (m_rV (As := []) (rest := []) X w hl mi_X1_clear ml_X8_104 (o + 32) (shn hs 32 rfl) (shk hs 32 rfl : S.2.1 (o + 32) = 1) rfl (c_X1_clear l D cy ad A (KX A aK aV) C0 N S V32 (o + 32) (sb_8_32 hs) V35 q34) ⟨⟨rfl, rfl, Nat.le_of_ble_eq_true rfl, Nat.le_of_ble_eq_true rfl⟩, Nat.le_of_ble_eq_true rfl, Nat.le_of_ble_eq_true rfl⟩ rfl rfl (Nat.le_of_ble_eq_true rfl) dX8_terms_52) w (fun H locs w => ?_)
      refine lv_aload_n hx hb dX8_terms_55 rfl (lv_at hl 1 rfl) ?_
      refine lv_iload_n hx hb dX8_terms_56 rfl (lv_at hl 0 rfl) ?_
      obtain ⟨r36, V38, q37, h⟩ := obi h
      refine m_ci (m_rV (As := [.int x30]) (rest := []) X w hl mi_X8_granted ml_X8_107 o (shn hs 0 rfl) (shk hs 0 rfl : S.2.1 o = 8) rfl (c_X8_granted l D cy ad A (KX A aK aV) C0 N S V35 o hs x30 r36 V38 q37) ⟨⟨rfl, rfl, Nat.le_of_ble_eq_true rfl, Nat.le_of_ble_eq_true rfl⟩, Nat.le_of_ble_eq_true rfl, Nat.le_of_ble_eq_true rfl⟩ rfl rfl (Nat.le_of_ble_eq_true rfl) dX8_terms_57) w (fun H locs w => ?_)
      obtain ⟨rfl, rfl⟩ := reti h
      exact m_ri X w hr hlocks dX8_terms_60
    · replace h := ifT h c28
      have g := B22 V  h
      rw [hG] at g
      exact g H locs ls w (lv_sub hl [0] rfl)
def f_X5_readSign (N : Nat) (S : St) (V : Vt) (o : Nat) (a1 : Nat) : Option (Int32 × Vt) := ob1 (f_X5_wordIn N S V o a1) (fun r9 => if r9 = (-1 : Int32) then ob (f_X5_fails N S V o) (fun r15 V17 => cb r15 (some (r15, V17))) else obv (f_X5_move N S V o) (fun V14 => some ((1 : Int32), V14)))
set_option maxHeartbeats 4000000 in
set_option maxRecDepth 100000 in
theorem c_X5_readSign (l : Launch) (D : va_G) (cy : Nat → ClassId) (ad : Nat → Nat) (A : Nat → Prop) (aK aV : Nat → Nat) (C0 : Cx ad A (KX A aK aV)) (N : Nat) (S : St) (V : Vt) (o : Nat) (hs : shp S o t5) (a1 : Nat) (hs_a1 : a1 < 20) (r : Int32) (V' : Vt) (h : f_X5_readSign N S V o a1 = some (r, V')) : Met l yX5_readSign (mw yX5_readSign cX5_readSign 2 (some .boolean)) { frames := 5, cells := 0, slots := 0, locals := 110 } (PreM D cy ad (KX A aK aV) S V [.ref (ad o), .ref (aK a1)]) (QI D cy ad A r S V') 0 0 A := by
  refine ct_goK C0 (own := RX5) rfl (by decide) rfl ?_
  intro p e s m below meth c ls H locs hKc X hr hlocks hnm hl w
  have hx := X.1.1
  have hb := X.1.2.1
  have hown := X.2.1
  have hts := X.2.2.1
  have hl : lv_has ls 2 [(0, .ref (ad o)), (1, .ref (aK a1))] := hl
  rw [f_X5_readSign] at h
  refine lv_aload_n hx hb dX5_readSign_0 rfl (lv_at hl 0 rfl) ?_
  refine lv_aload_n hx hb dX5_readSign_1 rfl (lv_at hl 1 rfl) ?_
  obtain ⟨r9, q10, h⟩ := ob1i h
  refine m_ci (m_rV (As := [.ref (aK a1)]) (rest := []) X w hl mi_X5_wordIn ml_X5_86 o (shn hs 0 rfl) (shk hs 0 rfl : S.2.1 o = 5) rfl (c_X5_wordIn l D cy ad A aK aV C0 N S V o hs a1 hs_a1 r9 q10) ⟨⟨rfl, rfl, Nat.le_of_ble_eq_true rfl, Nat.le_of_ble_eq_true rfl⟩, Nat.le_of_ble_eq_true rfl, Nat.le_of_ble_eq_true rfl⟩ rfl rfl (Nat.le_of_ble_eq_true rfl) dX5_readSign_2) w (fun H locs w => ?_)
  refine lv_iconst (v := (-1)) hx hb dX5_readSign_5 (by decide) ?_
  refine lv_icmp_ne (tgt := 14) hx hb dX5_readSign_6 (by decide) (fun c11 => ?_) (fun c11 => ?_)
  · replace h := ifF h c11
    refine lv_aload_n hx hb dX5_readSign_14 rfl (lv_at hl 0 rfl) ?_
    obtain ⟨V14, q13, h⟩ := obvi h
    refine m_cv (m_rV (As := []) (rest := []) X w hl mi_X5_move ml_X5_53 o (shn hs 0 rfl) (shk hs 0 rfl : S.2.1 o = 5) rfl (c_X5_move l D cy ad A (KX A aK aV) C0 N S V o hs V14 q13) ⟨⟨rfl, rfl, Nat.le_of_ble_eq_true rfl, Nat.le_of_ble_eq_true rfl⟩, Nat.le_of_ble_eq_true rfl, Nat.le_of_ble_eq_true rfl⟩ rfl rfl (Nat.le_of_ble_eq_true rfl) dX5_readSign_15) w (fun H locs w => ?_)
    refine lv_iconst (v := 1) hx hb dX5_readSign_18 (by decide) ?_
    obtain ⟨rfl, rfl⟩ := reti h
    exact m_rz X w hr rfl hlocks dX5_readSign_19
  · replace h := ifT h c11
    refine lv_aload_n hx hb dX5_readSign_9 rfl (lv_at hl 0 rfl) ?_
    obtain ⟨r15, V17, q16, h⟩ := obi h
    refine m_ci (m_rV (As := []) (rest := []) X w hl mi_X5_fails ml_X5_81 o (shn hs 0 rfl) (shk hs 0 rfl : S.2.1 o = 5) rfl (c_X5_fails l D cy ad A (KX A aK aV) C0 N S V o hs r15 V17 q16) ⟨⟨rfl, rfl, Nat.le_of_ble_eq_true rfl, Nat.le_of_ble_eq_true rfl⟩, Nat.le_of_ble_eq_true rfl, Nat.le_of_ble_eq_true rfl⟩ rfl rfl (Nat.le_of_ble_eq_true rfl) dX5_readSign_10) w (fun H locs w => ?_)
    obtain ⟨g18, h⟩ := cbi h
    obtain ⟨rfl, rfl⟩ := reti h
    exact m_rz X w hr (nb01 g18) hlocks dX5_readSign_13
def f_X5_readTimes (N : Nat) (S : St) (V : Vt) (o : Nat) : Option (Int32 × Vt) := ob1 (f_X5_wordIn N S V o 18) (fun r16 => if r16 = (-1 : Int32) then some ((1 : Int32), V) else obv (f_X5_move N S V o) (fun V21 => ob1 (f_X5_numberTo N S V21 o (20 : Int32)) (fun r22 => if (1 : Int32) ≤ r22 then ck (((6 : Int32) * ((V21.1 o 11) - (1 : Int32))) + (1 : Int32)) 72 (bd (sA V21 (o + 4) (((6 : Int32) * ((V21.1 o 11) - (1 : Int32))) + (1 : Int32)).toNatClampNeg r22) (fun V26 => obv (f_X5_move N S V26 o) (fun V29 => some ((1 : Int32), V29)))) else ob (f_X5_fails N S V21 o) (fun r30 V32 => cb r30 (some (r30, V32))))))
set_option maxHeartbeats 4000000 in
set_option maxRecDepth 100000 in
theorem c_X5_readTimes (l : Launch) (D : va_G) (cy : Nat → ClassId) (ad : Nat → Nat) (A : Nat → Prop) (aK aV : Nat → Nat) (C0 : Cx ad A (KX A aK aV)) (N : Nat) (S : St) (V : Vt) (o : Nat) (hs : shp S o t5) (r : Int32) (V' : Vt) (h : f_X5_readTimes N S V o = some (r, V')) : Met l yX5_readTimes (mw yX5_readTimes cX5_readTimes 2 (some .boolean)) { frames := 5, cells := 0, slots := 0, locals := 110 } (PreM D cy ad (KX A aK aV) S V [.ref (ad o)]) (QI D cy ad A r S V') 0 0 A := by
  refine ct_goK C0 (own := RX5) rfl (by decide) rfl ?_
  intro p e s m below meth c ls H locs hKc X hr hlocks hnm hl w
  have hx := X.1.1
  have hb := X.1.2.1
  have hown := X.2.1
  have hts := X.2.2.1
  have hl : lv_has ls 2 [(0, .ref (ad o))] := hl
  rw [f_X5_readTimes] at h
  refine lv_aload_n hx hb dX5_readTimes_0 rfl (lv_at hl 0 rfl) ?_
  refine va_ldcS hx hb hown (ks_18 hKc) dX5_readTimes_1 ?_
  obtain ⟨r16, q17, h⟩ := ob1i h
  refine m_ci (m_rV (As := [.ref (aK 18)]) (rest := []) X w hl mi_X5_wordIn ml_X5_86 o (shn hs 0 rfl) (shk hs 0 rfl : S.2.1 o = 5) rfl (c_X5_wordIn l D cy ad A aK aV C0 N S V o hs 18 (Nat.le_of_ble_eq_true rfl) r16 q17) ⟨⟨rfl, rfl, Nat.le_of_ble_eq_true rfl, Nat.le_of_ble_eq_true rfl⟩, Nat.le_of_ble_eq_true rfl, Nat.le_of_ble_eq_true rfl⟩ rfl rfl (Nat.le_of_ble_eq_true rfl) dX5_readTimes_3) w (fun H locs w => ?_)
  refine lv_iconst (v := (-1)) hx hb dX5_readTimes_6 (by decide) ?_
  refine lv_icmp_ne (tgt := 12) hx hb dX5_readTimes_7 (by decide) (fun c18 => ?_) (fun c18 => ?_)
  · replace h := ifF h c18
    refine lv_aload_n hx hb dX5_readTimes_12 rfl (lv_at hl 0 rfl) ?_
    obtain ⟨V21, q20, h⟩ := obvi h
    refine m_cv (m_rV (As := []) (rest := []) X w hl mi_X5_move ml_X5_53 o (shn hs 0 rfl) (shk hs 0 rfl : S.2.1 o = 5) rfl (c_X5_move l D cy ad A (KX A aK aV) C0 N S V o hs V21 q20) ⟨⟨rfl, rfl, Nat.le_of_ble_eq_true rfl, Nat.le_of_ble_eq_true rfl⟩, Nat.le_of_ble_eq_true rfl, Nat.le_of_ble_eq_true rfl⟩ rfl rfl (Nat.le_of_ble_eq_true rfl) dX5_readTimes_13) w (fun H locs w => ?_)
    refine lv_aload_n hx hb dX5_readTimes_16 rfl (lv_at hl 0 rfl) ?_
    refine lv_bipush (v := 20) hx hb dX5_readTimes_17 (by decide) ?_
    obtain ⟨r22, q23, h⟩ := ob1i h
    refine m_ci (m_rV (As := [.int (20 : Int32)]) (rest := []) X w hl mi_X5_numberTo ml_X5_123 o (shn hs 0 rfl) (shk hs 0 rfl : S.2.1 o = 5) rfl (c_X5_numberTo l D cy ad A (KX A aK aV) C0 N S V21 o hs (20 : Int32) r22 q23) ⟨⟨rfl, rfl, Nat.le_of_ble_eq_true rfl, Nat.le_of_ble_eq_true rfl⟩, Nat.le_of_ble_eq_true rfl, Nat.le_of_ble_eq_true rfl⟩ rfl rfl (Nat.le_of_ble_eq_true rfl) dX5_readTimes_19) w (fun H locs w => ?_)
    refine lv_istore_n (lv' := [(1, .int r22), (0, .ref (ad o))]) hx hb dX5_readTimes_22 rfl hl (by decide) rfl (fun ls hl => ?_)
    refine lv_iload_n hx hb dX5_readTimes_23 rfl (lv_at hl 0 rfl) ?_
    refine lv_iconst (v := 1) hx hb dX5_readTimes_24 (by decide) ?_
    refine lv_icmp_ge (tgt := 33) hx hb dX5_readTimes_25 (by decide) (fun c24 => ?_) (fun c24 => ?_)
    · replace h := ifT h c24
      refine lv_aload_n hx hb dX5_readTimes_33 rfl (lv_at hl 1 rfl) ?_
      refine m_get X w o (shn hs 0 rfl) (shk hs 0 rfl : S.2.1 o = 5) ci5 3 (by decide) (fvR (shk hs 0 rfl : S.2.1 o = 5) rfl (shq hs 0 3 rfl rfl : S.2.2.2.1 o 3 = (o + 4) + 1)) rfl fl_X5_23 dX5_readTimes_34 ?_
      refine lv_bipush (v := 6) hx hb dX5_readTimes_37 (by decide) ?_
      refine lv_aload_n hx hb dX5_readTimes_39 rfl (lv_at hl 1 rfl) ?_
      refine m_get X w o (shn hs 0 rfl) (shk hs 0 rfl : S.2.1 o = 5) ci5 11 (by decide) (fvI (shk hs 0 rfl : S.2.1 o = 5) rfl) rfl fl_X5_50 dX5_readTimes_40 ?_
      refine lv_iconst (v := 1) hx hb dX5_readTimes_43 (by decide) ?_
      refine lv_isub hx hb dX5_readTimes_44 ?_
      refine lv_imul hx hb dX5_readTimes_45 ?_
      refine lv_iconst (v := 1) hx hb dX5_readTimes_46 (by decide) ?_
      refine lv_iadd hx hb dX5_readTimes_47 ?_
      refine lv_iload_n hx hb dX5_readTimes_48 rfl (lv_at hl 0 rfl) ?_
      obtain ⟨g25, h⟩ := cki h
      refine m_iast X w (o + 4) (shn hs 4 rfl) (shk hs 4 rfl : S.2.1 (o + 4) = 11) (shz hs 4 rfl : S.2.2.1 (o + 4) = 72) g25 dX5_readTimes_49 (fun V26 H locs eV26 w => ?_)
      replace h := bdi h _ eV26
      refine lv_aload_n hx hb dX5_readTimes_50 rfl (lv_at hl 1 rfl) ?_
      obtain ⟨V29, q28, h⟩ := obvi h
      refine m_cv (m_rV (As := []) (rest := []) X w hl mi_X5_move ml_X5_53 o (shn hs 0 rfl) (shk hs 0 rfl : S.2.1 o = 5) rfl (c_X5_move l D cy ad A (KX A aK aV) C0 N S V26 o hs V29 q28) ⟨⟨rfl, rfl, Nat.le_of_ble_eq_true rfl, Nat.le_of_ble_eq_true rfl⟩, Nat.le_of_ble_eq_true rfl, Nat.le_of_ble_eq_true rfl⟩ rfl rfl (Nat.le_of_ble_eq_true rfl) dX5_readTimes_51) w (fun H locs w => ?_)
      refine lv_iconst (v := 1) hx hb dX5_readTimes_54 (by decide) ?_
      obtain ⟨rfl, rfl⟩ := reti h
      exact m_rz X w hr rfl hlocks dX5_readTimes_55
    · replace h := ifF h c24
      refine lv_aload_n hx hb dX5_readTimes_28 rfl (lv_at hl 1 rfl) ?_
      obtain ⟨r30, V32, q31, h⟩ := obi h
      refine m_ci (m_rV (As := []) (rest := []) X w hl mi_X5_fails ml_X5_81 o (shn hs 0 rfl) (shk hs 0 rfl : S.2.1 o = 5) rfl (c_X5_fails l D cy ad A (KX A aK aV) C0 N S V21 o hs r30 V32 q31) ⟨⟨rfl, rfl, Nat.le_of_ble_eq_true rfl, Nat.le_of_ble_eq_true rfl⟩, Nat.le_of_ble_eq_true rfl, Nat.le_of_ble_eq_true rfl⟩ rfl rfl (Nat.le_of_ble_eq_true rfl) dX5_readTimes_29) w (fun H locs w => ?_)
      obtain ⟨g33, h⟩ := cbi h
      obtain ⟨rfl, rfl⟩ := reti h
      exact m_rz X w hr (nb01 g33) hlocks dX5_readTimes_32
  · replace h := ifT h c18
    refine lv_iconst (v := 1) hx hb dX5_readTimes_10 (by decide) ?_
    obtain ⟨rfl, rfl⟩ := reti h
    exact m_rz X w hr rfl hlocks dX5_readTimes_11
