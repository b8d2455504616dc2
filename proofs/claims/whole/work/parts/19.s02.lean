def f_J0_charAt_5068e (N : Nat) (o : Nat) (a1 : Int32) : Option Int32 := ob1 (f_J0_isLatin1_aae02 N o) (fun r5 => if r5 = 0 then none else ob1 (f_J1_charAt_3b067 N o a1) (fun r8 => cch r8 (some r8)))
set_option maxHeartbeats 4000000 in
set_option maxRecDepth 100000 in
theorem c_J0_charAt_5068e (l : Launch) (D : va_G) (cy : Nat → ClassId) (ad : Nat → Nat) (A : Nat → Prop) (aK aV : Nat → Nat) (C0 : Cx ad A (KX A aK aV)) (N : Nat) (S : St) (V : Vt) (o : Nat) (hs_o : o < 20) (a1 : Int32) (r : Int32) (h : f_J0_charAt_5068e N o a1 = some r) : Met l yJ0_charAt_5068e (mw yJ0_charAt_5068e cJ0_charAt_5068e 2 (some .char)) { frames := 3, cells := 0, slots := 0, locals := 64 } (PreM D cy ad (KX A aK aV) S V [.ref (aK o), .int a1]) (QI D cy ad A r S V) 0 0 A := by
  refine ct_goFK C0 (own := RJ0) rfl (by decide) rfl ?_
  intro p e s m below meth c ls H locs hKc X hr hlocks hnm hl w
  have hx := X.1.1
  have hb := X.1.2.1
  have hown := X.2.1
  have hts := X.2.2.1
  have hl : lv_has ls 2 [(0, .ref (aK o)), (1, .int a1)] := hl
  rw [f_J0_charAt_5068e] at h
  refine lv_aload_n hx hb dJ0_charAt_5068e_0 rfl (lv_at hl 0 rfl) ?_
  obtain ⟨r5, q6, h⟩ := ob1i h
  refine m_ci (m_rZ (As := []) (rest := []) X hKc w hl mi_J0_isLatin1_aae02 rfl ml_J0_492 o hs_o (c_J0_isLatin1_aae02 l D cy ad A aK aV C0 N S V o hs_o r5 q6) ⟨⟨rfl, rfl, Nat.le_of_ble_eq_true rfl, Nat.le_of_ble_eq_true rfl⟩, Nat.le_of_ble_eq_true rfl, Nat.le_of_ble_eq_true rfl⟩ rfl rfl (Nat.le_of_ble_eq_true rfl) dJ0_charAt_5068e_1) w (fun H locs w => ?_)
  refine lv_if_eq (tgt := 16) hx hb dJ0_charAt_5068e_4 (by decide) (fun c7 => ?_) (fun c7 => ?_)
  · replace h := ifT h c7
    refine lv_aload_n hx hb dJ0_charAt_5068e_16 rfl (lv_at hl 0 rfl) ?_
    refine vk_getf hx hb (hKc.1.1 o hs_o).2.2.1 w.2 hown (hts _ fl_J0_9) (fun _ h9 => h9) dJ0_charAt_5068e_17 ?_
    refine lv_iload_n hx hb dJ0_charAt_5068e_20 rfl (lv_at hl 1 rfl) ?_
    cases h
  · replace h := ifF h c7
    refine lv_aload_n hx hb dJ0_charAt_5068e_7 rfl (lv_at hl 0 rfl) ?_
    refine vk_getf hx hb (hKc.1.1 o hs_o).2.2.1 w.2 hown (hts _ fl_J0_9) (fun _ h9 => h9) dJ0_charAt_5068e_8 ?_
    refine lv_iload_n hx hb dJ0_charAt_5068e_11 rfl (lv_at hl 1 rfl) ?_
    obtain ⟨r8, q9, h⟩ := ob1i h
    refine m_ci (m_rS (As := [.ref (aV o), .int a1]) (rest := []) X w hl mi_J1_charAt_3b067 ml_J0_495 (c_J1_charAt_3b067 l D cy ad A aK aV C0 N S V o hs_o a1 r8 q9) ⟨⟨rfl, rfl, Nat.le_of_ble_eq_true rfl, Nat.le_of_ble_eq_true rfl⟩, Nat.le_of_ble_eq_true rfl, Nat.le_of_ble_eq_true rfl⟩ rfl rfl (Nat.le_of_ble_eq_true rfl) dJ0_charAt_5068e_12) w (fun H locs w => ?_)
    obtain ⟨g10, h⟩ := cchi h
    obtain rfl := Option.some.inj h
    exact m_rz X w hr g10 hlocks dJ0_charAt_5068e_15
def f_X8_terms_22 (N : Nat) (S : St) (o : Nat) (V : Vt) : Option (Int32 × Vt) := ob (f_X8_refused N S V o (-1 : Int32)) (fun r22 V24 => some (r22, V24))
def f_X8_terms (N : Nat) (S : St) (V : Vt) (o : Nat) (a1 : Int32) (a2 : Int32) : Option (Int32 × Vt) := ob1 (f_X8_isWithin N a1 (0 : Int32) (2 : Int32)) (fun r19 => if r19 = 0 then f_X8_terms_22 N S o V  else ck a1 3 (ob1 (f_X8_isWithin N a2 (0 : Int32) (tMost.getD a1.toNatClampNeg 0)) (fun r26 => if r26 = 0 then f_X8_terms_22 N S o V  else ck a1 3 (bd (V.2.1 (o + 7) a1.toNatClampNeg) (fun x30 => ck a1 3 (bd (sA V (o + 7) a1.toNatClampNeg a2) (fun V32 => obv (f_X1_clear N S V32 (o + 32)) (fun V35 => ob (f_X8_granted N S V35 o x30) (fun r36 V38 => some (r36, V38))))))))))
set_option maxHeartbeats 4000000 in
set_option maxRecDepth 100000 in
theorem c_X8_terms (l : Launch) (D : va_G) (cy : Nat → ClassId) (ad : Nat → Nat) (A : Nat → Prop) (aK aV : Nat → Nat) (C0 : Cx ad A (KX A aK aV)) (N : Nat) (S : St) (V : Vt) (o : Nat) (hs : shp S o t8) (a1 : Int32) (a2 : Int32) (r : Int32) (V' : Vt) (h : f_X8_terms N S V o a1 a2 = some (r, V')) : Met l yX8_terms (mw yX8_terms cX8_terms 4 (some .int)) { frames := 1, cells := 0, slots := 0, locals := 22 } (PreM D cy ad (KX A aK aV) S V [.ref (ad o), .int a1, .int a2]) (QI D cy ad A r S V') 0 0 A := by
  refine ct_goK C0 (own := RX8) rfl (by decide) rfl ?_
  intro p e s m below meth c ls H locs hKc X hr hlocks hnm hl w
  have hx := X.1.1
  have hb := X.1.2.1
  have hown := X.2.1
  have hts := X.2.2.1
  have hl : lv_has ls 4 [(0, .ref (ad o)), (1, .int a1), (2, .int a2)] := hl
  obtain ⟨G, hG⟩ : ∃ G : Nat → Vt → List (Nat × Value) → List Value → Prop, G = fun pc V lv st => ∀ (H : Heap) (locs : List Loc) (ls : Array Slot), Wd D cy ad A s.heap S V H locs → lv_has ls 4 lv → W p l e { frames := 1, cells := 0, slots := 0, locals := 22 } s m ([.ref (ad o), .int a1, .int a2] : List Value).toArray below meth c H locs 0 0 (MQ below (QI D cy ad A r S V') ([.ref (ad o), .int a1, .int a2] : List Value).toArray s 0 0 A) (F0 m pc ls st) := ⟨_, rfl⟩
  have B22 : ∀ (V : Vt), f_X8_terms_22 N S o V  = some (r, V') → G 22 V [(0, .ref (ad o))] [] := by
    intro V  h
    rw [hG]
    intro H locs ls w hl
    rw [f_X8_terms_22] at h
    refine lv_aload_n hx hb dX8_terms_22 rfl (lv_at hl 0 rfl) ?_
    refine lv_iconst (v := (-1)) hx hb dX8_terms_23 (by decide) ?_
    obtain ⟨r22, V24, q23, h⟩ := obi h
    refine m_ci (m_rV (As := [.int (-1 : Int32)]) (rest := []) X w hl mi_X8_refused ml_X8_99 o (shn hs 0 rfl) (shk hs 0 rfl : S.2.1 o = 8) rfl (c_X8_refused l D cy ad A (KX A aK aV) C0 N S V o hs (-1 : Int32) r22 V24 q23) ⟨⟨rfl, rfl, Nat.le_of_ble_eq_true rfl, Nat.le_of_ble_eq_true rfl⟩, Nat.le_of_ble_eq_true rfl, Nat.le_of_ble_eq_true rfl⟩ rfl rfl (Nat.le_of_ble_eq_true rfl) dX8_terms_24) w (fun H locs w => ?_)
    obtain ⟨rfl, rfl⟩ := reti h
    exact m_ri X w hr hlocks dX8_terms_27
  rw [f_X8_terms] at h
  refine lv_iload_n hx hb dX8_terms_0 rfl (lv_at hl 1 rfl) ?_
  refine lv_iconst (v := 0) hx hb dX8_terms_1 (by decide) ?_
  refine lv_iconst (v := 2) hx hb dX8_terms_2 (by decide) ?_
  obtain ⟨r19, q20, h⟩ := ob1i h
  refine m_ci (m_rS (As := [.int a1, .int (0 : Int32), .int (2 : Int32)]) (rest := []) X w hl mi_X8_isWithin ml_X8_95 (c_X8_isWithin l D cy ad A (KX A aK aV) C0 N S V a1 (0 : Int32) (2 : Int32) r19 q20) ⟨⟨rfl, rfl, Nat.le_of_ble_eq_true rfl, Nat.le_of_ble_eq_true rfl⟩, Nat.le_of_ble_eq_true rfl, Nat.le_of_ble_eq_true rfl⟩ rfl rfl (Nat.le_of_ble_eq_true rfl) dX8_terms_3) w (fun H locs w => ?_)
  refine lv_if_eq (tgt := 22) hx hb dX8_terms_6 (by decide) (fun c21 => ?_) (fun c21 => ?_)
  · replace h := ifT h c21
    have g := B22 V  h
    rw [hG] at g
    exact g H locs ls w (lv_sub hl [0] rfl)
  · replace h := ifF h c21
    refine lv_iload_n hx hb dX8_terms_9 rfl (lv_at hl 2 rfl) ?_
    refine lv_iconst (v := 0) hx hb dX8_terms_10 (by decide) ?_
    obtain ⟨tM, hZM, hTM⟩ := hKc.2.2.2.2.1
    refine va_gets hx hb hZM w.2 hown (hts _ fl_X8_155) (fun _ h9 => h9) dX8_terms_11 ?_
    refine lv_iload_n hx hb dX8_terms_14 rfl (lv_at hl 1 rfl) ?_
    obtain ⟨g25, h⟩ := cki h
    refine va_ti hx hb hTM w.2 g25 rfl dX8_terms_15 ?_
    obtain ⟨r26, q27, h⟩ := ob1i h
    refine m_ci (m_rS (As := [.int a2, .int (0 : Int32), .int (tMost.getD a1.toNatClampNeg 0)]) (rest := []) X w hl mi_X8_isWithin ml_X8_95 (c_X8_isWithin l D cy ad A (KX A aK aV) C0 N S V a2 (0 : Int32) (tMost.getD a1.toNatClampNeg 0) r26 q27) ⟨⟨rfl, rfl, Nat.le_of_ble_eq_true rfl, Nat.le_of_ble_eq_true rfl⟩, Nat.le_of_ble_eq_true rfl, Nat.le_of_ble_eq_true rfl⟩ rfl rfl (Nat.le_of_ble_eq_true rfl) dX8_terms_16) w (fun H locs w => ?_)
    refine lv_if_ne (tgt := 28) hx hb dX8_terms_19 (by decide) (fun c28 => ?_) (fun c28 => ?_)
    · replace h := ifF h c28
      refine lv_aload_n hx hb dX8_terms_28 rfl (lv_at hl 0 rfl) ?_
      refine m_get X w o (shn hs 0 rfl) (shk hs 0 rfl : S.2.1 o = 8) ci8 0 (by decide) (fvR (shk hs 0 rfl : S.2.1 o = 8) rfl (shq hs 0 0 rfl rfl : S.2.2.2.1 o 0 = (o + 1) + 1)) rfl fl_X8_14 dX8_terms_29 ?_
      refine m_getN X w (o + 1) (shn hs 1 rfl) (shk hs 1 rfl : S.2.1 (o + 1) = 0) ci0 5 (by decide) (fvR (shk hs 1 rfl : S.2.1 (o + 1) = 0) rfl (shq hs 1 5 rfl rfl : S.2.2.2.1 (o + 1) 5 = (o + 7) + 1)) rfl nf_X8_158 dX8_terms_32 ?_
      refine lv_iload_n hx hb dX8_terms_35 rfl (lv_at hl 1 rfl) ?_
      obtain ⟨g29, h⟩ := cki h
      refine m_iald X w (o + 7) (shn hs 7 rfl) (shk hs 7 rfl : S.2.1 (o + 7) = 11) (shz hs 7 rfl : S.2.2.1 (o + 7) = 3) g29 dX8_terms_36 ?_
      refine lv_topi (fun x30 ex30 => ?_)
      replace h := bdi h _ ex30
      refine lv_istore_n (lv' := [(3, .int x30), (0, .ref (ad o)), (1, .int a1), (2, .int a2)]) hx hb dX8_terms_37 rfl hl (by decide) rfl (fun ls hl => ?_)
      refine lv_aload_n hx hb dX8_terms_38 rfl (lv_at hl 1 rfl) ?_
      refine m_get X w o (shn hs 0 rfl) (shk hs 0 rfl : S.2.1 o = 8) ci8 0 (by decide) (fvR (shk hs 0 rfl : S.2.1 o = 8) rfl (shq hs 0 0 rfl rfl : S.2.2.2.1 o 0 = (o + 1) + 1)) rfl fl_X8_14 dX8_terms_39 ?_
      refine m_getN X w (o + 1) (shn hs 1 rfl) (shk hs 1 rfl : S.2.1 (o + 1) = 0) ci0 5 (by decide) (fvR (shk hs 1 rfl : S.2.1 (o + 1) = 0) rfl (shq hs 1 5 rfl rfl : S.2.2.2.1 (o + 1) 5 = (o + 7) + 1)) rfl nf_X8_158 dX8_terms_42 ?_
      refine lv_iload_n hx hb dX8_terms_45 rfl (lv_at hl 2 rfl) ?_
      refine lv_iload_n hx hb dX8_terms_46 rfl (lv_at hl 3 rfl) ?_
      obtain ⟨g31, h⟩ := cki h
      refine m_iast X w (o + 7) (shn hs 7 rfl) (shk hs 7 rfl : S.2.1 (o + 7) = 11) (shz hs 7 rfl : S.2.2.1 (o + 7) = 3) g31 dX8_terms_47 (fun V32 H locs eV32 w => ?_)
      replace h := bdi h _ eV32
      refine lv_aload_n hx hb dX8_terms_48 rfl (lv_at hl 1 rfl) ?_
      refine m_get X w o (shn hs 0 rfl) (shk hs 0 rfl : S.2.1 o = 8) ci8 4 (by decide) (fvR (shk hs 0 rfl : S.2.1 o = 8) rfl (shq hs 0 4 rfl rfl : S.2.2.2.1 o 4 = (o + 32) + 1)) rfl fl_X8_31 dX8_terms_49 ?_
      obtain ⟨V35, q34, h⟩ := obvi h
      refine m_cv (m_rV (As := []) (rest := []) X w hl mi_X1_clear ml_X8_106 (o + 32) (shn hs 32 rfl) (shk hs 32 rfl : S.2.1 (o + 32) = 1) rfl (c_X1_clear l D cy ad A (KX A aK aV) C0 N S V32 (o + 32) (sb_8_32 hs) V35 q34) ⟨⟨rfl, rfl, Nat.le_of_ble_eq_true rfl, Nat.le_of_ble_eq_true rfl⟩, Nat.le_of_ble_eq_true rfl, Nat.le_of_ble_eq_true rfl⟩ rfl rfl (Nat.le_of_ble_eq_true rfl) dX8_terms_52) w (fun H locs w => ?_)
      refine lv_aload_n hx hb dX8_terms_55 rfl (lv_at hl 1 rfl) ?_
      refine lv_iload_n hx hb dX8_terms_56 rfl (lv_at hl 0 rfl) ?_
      obtain ⟨r36, V38, q37, h⟩ := obi h
      refine m_ci (m_rV (As := [.int x30]) (rest := []) X w hl mi_X8_granted ml_X8_109 o (shn hs 0 rfl) (shk hs 0 rfl : S.2.1 o = 8) rfl (c_X8_granted l D cy ad A (KX A aK aV) C0 N S V35 o hs x30 r36 V38 q37) ⟨⟨rfl, rfl, Nat.le_of_ble_eq_true rfl, Nat.le_of_ble_eq_true rfl⟩, Nat.le_of_ble_eq_true rfl, Nat.le_of_ble_eq_true rfl⟩ rfl rfl (Nat.le_of_ble_eq_true rfl) dX8_terms_57) w (fun H locs w => ?_)
      obtain ⟨rfl, rfl⟩ := reti h
      exact m_ri X w hr hlocks dX8_terms_60
    · replace h := ifT h c28
      have g := B22 V  h
      rw [hG] at g
      exact g H locs ls w (lv_sub hl [0] rfl)
