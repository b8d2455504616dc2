set_option maxHeartbeats 4000000 in
set_option maxRecDepth 100000 in
def f_X0_init (N : Nat) (ad : Nat → Nat) (S : St) (V : Vt) (o : Nat) : Option (St × Vt) := cg (ad S.1 == S.2.2.2.2) (bd S.1 (fun q48 => bd (nwA S 11 25) (fun S => bd (zV V q48) (fun V50 => cg (ooB S o 0) (bd (stP S o 0 (q48 + 1)) (fun S => cg (ad S.1 == S.2.2.2.2) (bd S.1 (fun q52 => bd (nwA S 11 25) (fun S => bd (zV V50 q52) (fun V54 => cg (ooB S o 0) (bd (stP S o 1 (q52 + 1)) (fun S => cg (ad S.1 == S.2.2.2.2) (bd S.1 (fun q56 => bd (nwA S 11 10) (fun S => bd (zV V54 q56) (fun V58 => cg (ooB S o 0) (bd (stP S o 2 (q56 + 1)) (fun S => cg (ad S.1 == S.2.2.2.2) (bd S.1 (fun q60 => bd (nwA S 11 5) (fun S => bd (zV V58 q60) (fun V62 => cg (ooB S o 0) (bd (stP S o 3 (q60 + 1)) (fun S => cg (ad S.1 == S.2.2.2.2) (bd S.1 (fun q64 => bd (nwA S 11 5) (fun S => bd (zV V62 q64) (fun V66 => cg (ooB S o 0) (bd (stP S o 4 (q64 + 1)) (fun S => cg (ad S.1 == S.2.2.2.2) (bd S.1 (fun q68 => bd (nwA S 11 3) (fun S => bd (zV V66 q68) (fun V70 => cg (aaB S q68 11 3) (ck (0 : Int32) 3 (bd (sA V70 q68 (0 : Int32).toNatClampNeg (0 : Int32)) (fun V73 => cg (aaB S q68 11 3) (ck (1 : Int32) 3 (bd (sA V73 q68 (1 : Int32).toNatClampNeg (1 : Int32)) (fun V76 => cg (aaB S q68 11 3) (ck (2 : Int32) 3 (bd (sA V76 q68 (2 : Int32).toNatClampNeg (0 : Int32)) (fun V79 => cg (ooB S o 0) (bd (stP S o 5 (q68 + 1)) (fun S => cg (ad S.1 == S.2.2.2.2) (bd S.1 (fun q81 => bd (nwA S 15 6) (fun S => bd (zV V79 q81) (fun V83 => cg (ooB S o 0) (bd (stP S o 6 (q81 + 1)) (fun S => cg (ad S.1 == S.2.2.2.2) (bd S.1 (fun q85 => bd (nwA S 11 24) (fun S => bd (zV V83 q85) (fun V87 => cg (ooB S o 0) (bd (stP S o 7 (q85 + 1)) (fun S => cg (ad S.1 == S.2.2.2.2) (bd S.1 (fun q89 => bd (nwA S 11 30) (fun S => bd (zV V87 q89) (fun V91 => cg (ooB S o 0) (bd (stP S o 8 (q89 + 1)) (fun S => cg (ooB S o 0) (bd (sF V91 o 11 (-1 : Int32)) (fun V94 => some (S, V94))))))))))))))))))))))))))))))))))))))))))))))))))))))))))))))))))
set_option maxHeartbeats 4000000 in
set_option maxRecDepth 100000 in
theorem c_X0_init (l : Launch) (D : va_G) (cy : Nat → ClassId) (ad : Nat → Nat) (A : Nat → Prop) (aK aV : Nat → Nat) (C0 : Cx ad A (KX A aK aV)) (N : Nat) (S : St) (V : Vt) (o : Nat) (S' : St) (V' : Vt) (h : f_X0_init N ad S V o = some (S', V')) : Met l yX0_init (mw yX0_init cX0_init 1 none) { frames := 1, cells := 9, slots := 133, locals := 64 } (PreM D cy ad (KX A aK aV) S V [.ref (ad o)]) (QV D cy ad A S' V') 9 133 A := by
  refine ct_goK C0 (own := RX0) rfl (by decide) rfl ?_
  intro p e s m below meth c ls H locs hKc X hr hlocks hnm hl w
  have hx := X.1.1
  have hb := X.1.2.1
  have hown := X.2.1
  have hts := X.2.2.1
  have hl : lv_has ls 1 [(0, .ref (ad o))] := hl
  rw [f_X0_init] at h
  refine lv_aload_n hx hb dX0_init_0 rfl (lv_at hl 0 rfl) ?_
  refine m_oi (rest := []) X hl ml_X0_3 (Nat.le_of_ble_eq_true rfl) (Nat.le_of_ble_eq_true rfl) dX0_init_1 ?_
  refine lv_aload_n hx hb dX0_init_4 rfl (lv_at hl 0 rfl) ?_
  refine lv_bipush (v := 25) hx hb dX0_init_5 (by decide) ?_
  obtain ⟨g49, h⟩ := cgi h
  have g49 := beq_iff_eq.mp g49
  obtain ⟨q48, eq48⟩ : ∃ y : Nat, y = S.1 := ⟨_, rfl⟩
  replace h := bdi h _ eq48
  refine m_newa (N' := 25) X w g49 (atype := .int) rfl 11 1 rfl na_int rfl nv_int ac_int (by decide) (by decide) (Nat.le_of_ble_eq_true rfl) (Nat.le_of_ble_eq_true rfl) (Nat.le_of_ble_eq_true rfl) dX0_init_7 (fun S V50 H locs eS eV50 w => ?_)
  rw [← eq48] at eV50 ⊢
  replace h := bdi h _ eS
  replace h := bdi h _ eV50
  refine W.widen (k := 1) (n := 25) (Nat.le_of_ble_eq_true rfl) (Nat.le_of_ble_eq_true rfl) ?_
  obtain ⟨g51, h⟩ := cgi h
  have g51 := ooB_of g51
  refine m_putR X w o g51.1 g51.2 ci0 0 (by decide) rfl rfl rfl rfl hnm rfl rfl fl_X0_9 dX0_init_9 (fun S H locs eS w => ?_)
  replace h := bdi h _ eS
  refine lv_aload_n hx hb dX0_init_12 rfl (lv_at hl 0 rfl) ?_
  refine lv_bipush (v := 25) hx hb dX0_init_13 (by decide) ?_
  obtain ⟨g53, h⟩ := cgi h
  have g53 := beq_iff_eq.mp g53
  obtain ⟨q52, eq52⟩ : ∃ y : Nat, y = S.1 := ⟨_, rfl⟩
  replace h := bdi h _ eq52
  refine m_newa (N' := 25) X w g53 (atype := .int) rfl 11 1 rfl na_int rfl nv_int ac_int (by decide) (by decide) (Nat.le_of_ble_eq_true rfl) (Nat.le_of_ble_eq_true rfl) (Nat.le_of_ble_eq_true rfl) dX0_init_15 (fun S V54 H locs eS eV54 w => ?_)
  rw [← eq52] at eV54 ⊢
  replace h := bdi h _ eS
  replace h := bdi h _ eV54
  refine W.widen (k := 2) (n := 50) (Nat.le_of_ble_eq_true rfl) (Nat.le_of_ble_eq_true rfl) ?_
  obtain ⟨g55, h⟩ := cgi h
  have g55 := ooB_of g55
  refine m_putR X w o g55.1 g55.2 ci0 1 (by decide) rfl rfl rfl rfl hnm rfl rfl fl_X0_15 dX0_init_17 (fun S H locs eS w => ?_)
  replace h := bdi h _ eS
  refine lv_aload_n hx hb dX0_init_20 rfl (lv_at hl 0 rfl) ?_
  refine lv_bipush (v := 10) hx hb dX0_init_21 (by decide) ?_
  obtain ⟨g57, h⟩ := cgi h
  have g57 := beq_iff_eq.mp g57
  obtain ⟨q56, eq56⟩ : ∃ y : Nat, y = S.1 := ⟨_, rfl⟩
  replace h := bdi h _ eq56
  refine m_newa (N' := 10) X w g57 (atype := .int) rfl 11 1 rfl na_int rfl nv_int ac_int (by decide) (by decide) (Nat.le_of_ble_eq_true rfl) (Nat.le_of_ble_eq_true rfl) (Nat.le_of_ble_eq_true rfl) dX0_init_23 (fun S V58 H locs eS eV58 w => ?_)
  rw [← eq56] at eV58 ⊢
  replace h := bdi h _ eS
  replace h := bdi h _ eV58
  refine W.widen (k := 3) (n := 60) (Nat.le_of_ble_eq_true rfl) (Nat.le_of_ble_eq_true rfl) ?_
  obtain ⟨g59, h⟩ := cgi h
  have g59 := ooB_of g59
  refine m_putR X w o g59.1 g59.2 ci0 2 (by decide) rfl rfl rfl rfl hnm rfl rfl fl_X0_18 dX0_init_25 (fun S H locs eS w => ?_)
  replace h := bdi h _ eS
  refine lv_aload_n hx hb dX0_init_28 rfl (lv_at hl 0 rfl) ?_
  refine lv_iconst (v := 5) hx hb dX0_init_29 (by decide) ?_
  obtain ⟨g61, h⟩ := cgi h
  have g61 := beq_iff_eq.mp g61
  obtain ⟨q60, eq60⟩ : ∃ y : Nat, y = S.1 := ⟨_, rfl⟩
  replace h := bdi h _ eq60
  refine m_newa (N' := 5) X w g61 (atype := .int) rfl 11 1 rfl na_int rfl nv_int ac_int (by decide) (by decide) (Nat.le_of_ble_eq_true rfl) (Nat.le_of_ble_eq_true rfl) (Nat.le_of_ble_eq_true rfl) dX0_init_30 (fun S V62 H locs eS eV62 w => ?_)
  rw [← eq60] at eV62 ⊢
  replace h := bdi h _ eS
  replace h := bdi h _ eV62
  refine W.widen (k := 4) (n := 65) (Nat.le_of_ble_eq_true rfl) (Nat.le_of_ble_eq_true rfl) ?_
  obtain ⟨g63, h⟩ := cgi h
  have g63 := ooB_of g63
  refine m_putR X w o g63.1 g63.2 ci0 3 (by decide) rfl rfl rfl rfl hnm rfl rfl fl_X0_21 dX0_init_32 (fun S H locs eS w => ?_)
  replace h := bdi h _ eS
  refine lv_aload_n hx hb dX0_init_35 rfl (lv_at hl 0 rfl) ?_
  refine lv_iconst (v := 5) hx hb dX0_init_36 (by decide) ?_
  obtain ⟨g65, h⟩ := cgi h
  have g65 := beq_iff_eq.mp g65
  obtain ⟨q64, eq64⟩ : ∃ y : Nat, y = S.1 := ⟨_, rfl⟩
  replace h := bdi h _ eq64
  refine m_newa (N' := 5) X w g65 (atype := .int) rfl 11 1 rfl na_int rfl nv_int ac_int (by decide) (by decide) (Nat.le_of_ble_eq_true rfl) (Nat.le_of_ble_eq_true rfl) (Nat.le_of_ble_eq_true rfl) dX0_init_37 (fun S V66 H locs eS eV66 w => ?_)
  rw [← eq64] at eV66 ⊢
  replace h := bdi h _ eS
  replace h := bdi h _ eV66
  refine W.widen (k := 5) (n := 70) (Nat.le_of_ble_eq_true rfl) (Nat.le_of_ble_eq_true rfl) ?_
  obtain ⟨g67, h⟩ := cgi h
  have g67 := ooB_of g67
  refine m_putR X w o g67.1 g67.2 ci0 4 (by decide) rfl rfl rfl rfl hnm rfl rfl fl_X0_24 dX0_init_39 (fun S H locs eS w => ?_)
  replace h := bdi h _ eS
  refine lv_aload_n hx hb dX0_init_42 rfl (lv_at hl 0 rfl) ?_
  refine lv_iconst (v := 3) hx hb dX0_init_43 (by decide) ?_
  obtain ⟨g69, h⟩ := cgi h
  have g69 := beq_iff_eq.mp g69
  obtain ⟨q68, eq68⟩ : ∃ y : Nat, y = S.1 := ⟨_, rfl⟩
  replace h := bdi h _ eq68
  refine m_newa (N' := 3) X w g69 (atype := .int) rfl 11 1 rfl na_int rfl nv_int ac_int (by decide) (by decide) (Nat.le_of_ble_eq_true rfl) (Nat.le_of_ble_eq_true rfl) (Nat.le_of_ble_eq_true rfl) dX0_init_44 (fun S V70 H locs eS eV70 w => ?_)
  rw [← eq68] at eV70 ⊢
  replace h := bdi h _ eS
  replace h := bdi h _ eV70
  refine W.widen (k := 6) (n := 73) (Nat.le_of_ble_eq_true rfl) (Nat.le_of_ble_eq_true rfl) ?_
  refine lv_dup hx hb dX0_init_46 rfl ?_
  refine lv_iconst (v := 0) hx hb dX0_init_47 (by decide) ?_
  refine lv_iconst (v := 0) hx hb dX0_init_48 (by decide) ?_
  obtain ⟨g71, h⟩ := cgi h
  have g71 := aaB_of g71
  obtain ⟨g72, h⟩ := cki h
  refine m_iast X w q68 g71.1 g71.2.1 g71.2.2 g72 dX0_init_49 (fun V73 H locs eV73 w => ?_)
  replace h := bdi h _ eV73
  refine lv_dup hx hb dX0_init_50 rfl ?_
  refine lv_iconst (v := 1) hx hb dX0_init_51 (by decide) ?_
  refine lv_iconst (v := 1) hx hb dX0_init_52 (by decide) ?_
  obtain ⟨g74, h⟩ := cgi h
  have g74 := aaB_of g74
  obtain ⟨g75, h⟩ := cki h
  refine m_iast X w q68 g74.1 g74.2.1 g74.2.2 g75 dX0_init_53 (fun V76 H locs eV76 w => ?_)
  replace h := bdi h _ eV76
  refine lv_dup hx hb dX0_init_54 rfl ?_
  refine lv_iconst (v := 2) hx hb dX0_init_55 (by decide) ?_
  refine lv_iconst (v := 0) hx hb dX0_init_56 (by decide) ?_
  obtain ⟨g77, h⟩ := cgi h
  have g77 := aaB_of g77
  obtain ⟨g78, h⟩ := cki h
  refine m_iast X w q68 g77.1 g77.2.1 g77.2.2 g78 dX0_init_57 (fun V79 H locs eV79 w => ?_)
  replace h := bdi h _ eV79
  obtain ⟨g80, h⟩ := cgi h
  have g80 := ooB_of g80
  refine m_putR X w o g80.1 g80.2 ci0 5 (by decide) rfl rfl rfl rfl hnm rfl rfl fl_X0_27 dX0_init_58 (fun S H locs eS w => ?_)
  replace h := bdi h _ eS
  refine lv_aload_n hx hb dX0_init_61 rfl (lv_at hl 0 rfl) ?_
  refine lv_bipush (v := 6) hx hb dX0_init_62 (by decide) ?_
  obtain ⟨g82, h⟩ := cgi h
  have g82 := beq_iff_eq.mp g82
  obtain ⟨q81, eq81⟩ : ∃ y : Nat, y = S.1 := ⟨_, rfl⟩
  replace h := bdi h _ eq81
  refine m_newq (N' := 6) X w g82 15 5 rfl rfl rfl rfl cl_X0_30 hKc.2.2.2.2.2.2.1 (by decide) (by decide) (Nat.le_of_ble_eq_true rfl) (Nat.le_of_ble_eq_true rfl) (Nat.le_of_ble_eq_true rfl) dX0_init_64 (fun S V83 H locs eS eV83 w => ?_)
  rw [← eq81] at eV83 ⊢
  replace h := bdi h _ eS
  replace h := bdi h _ eV83
  refine W.widen (k := 7) (n := 79) (Nat.le_of_ble_eq_true rfl) (Nat.le_of_ble_eq_true rfl) ?_
  obtain ⟨g84, h⟩ := cgi h
  have g84 := ooB_of g84
  refine m_putR X w o g84.1 g84.2 ci0 6 (by decide) rfl rfl rfl rfl hnm rfl rfl fl_X0_32 dX0_init_67 (fun S H locs eS w => ?_)
  replace h := bdi h _ eS
  refine lv_aload_n hx hb dX0_init_70 rfl (lv_at hl 0 rfl) ?_
  refine lv_bipush (v := 24) hx hb dX0_init_71 (by decide) ?_
  obtain ⟨g86, h⟩ := cgi h
  have g86 := beq_iff_eq.mp g86
  obtain ⟨q85, eq85⟩ : ∃ y : Nat, y = S.1 := ⟨_, rfl⟩
  replace h := bdi h _ eq85
  refine m_newa (N' := 24) X w g86 (atype := .int) rfl 11 1 rfl na_int rfl nv_int ac_int (by decide) (by decide) (Nat.le_of_ble_eq_true rfl) (Nat.le_of_ble_eq_true rfl) (Nat.le_of_ble_eq_true rfl) dX0_init_73 (fun S V87 H locs eS eV87 w => ?_)
  rw [← eq85] at eV87 ⊢
  replace h := bdi h _ eS
  replace h := bdi h _ eV87
  refine W.widen (k := 8) (n := 103) (Nat.le_of_ble_eq_true rfl) (Nat.le_of_ble_eq_true rfl) ?_
  obtain ⟨g88, h⟩ := cgi h
  have g88 := ooB_of g88
  refine m_putR X w o g88.1 g88.2 ci0 7 (by decide) rfl rfl rfl rfl hnm rfl rfl fl_X0_36 dX0_init_75 (fun S H locs eS w => ?_)
  replace h := bdi h _ eS
  refine lv_aload_n hx hb dX0_init_78 rfl (lv_at hl 0 rfl) ?_
  refine lv_bipush (v := 30) hx hb dX0_init_79 (by decide) ?_
  obtain ⟨g90, h⟩ := cgi h
  have g90 := beq_iff_eq.mp g90
  obtain ⟨q89, eq89⟩ : ∃ y : Nat, y = S.1 := ⟨_, rfl⟩
  replace h := bdi h _ eq89
  refine m_newa (N' := 30) X w g90 (atype := .int) rfl 11 1 rfl na_int rfl nv_int ac_int (by decide) (by decide) (Nat.le_of_ble_eq_true rfl) (Nat.le_of_ble_eq_true rfl) (Nat.le_of_ble_eq_true rfl) dX0_init_81 (fun S V91 H locs eS eV91 w => ?_)
  rw [← eq89] at eV91 ⊢
  replace h := bdi h _ eS
  replace h := bdi h _ eV91
  refine W.widen (k := 9) (n := 133) (Nat.le_of_ble_eq_true rfl) (Nat.le_of_ble_eq_true rfl) ?_
  obtain ⟨g92, h⟩ := cgi h
  have g92 := ooB_of g92
  refine m_putR X w o g92.1 g92.2 ci0 8 (by decide) rfl rfl rfl rfl hnm rfl rfl fl_X0_39 dX0_init_83 (fun S H locs eS w => ?_)
  replace h := bdi h _ eS
  refine lv_aload_n hx hb dX0_init_86 rfl (lv_at hl 0 rfl) ?_
  refine lv_iconst (v := (-1)) hx hb dX0_init_87 (by decide) ?_
  obtain ⟨g93, h⟩ := cgi h
  have g93 := ooB_of g93
  refine m_put X w o g93.1 g93.2 ci0 11 (by decide) rfl rfl rfl rfl rfl fl_X0_42 dX0_init_88 (fun V94 H locs eV94 w => ?_)
  replace h := bdi h _ eV94
  obtain ⟨rfl, rfl⟩ := retAv h
  refine W.widen (k := 9) (n := 133) (Nat.le_of_ble_eq_true rfl) (Nat.le_of_ble_eq_true rfl) ?_
  exact m_rv X w hr hlocks dX0_init_91
set_option maxHeartbeats 4000000 in
set_option maxRecDepth 100000 in
def f_X1_init (N : Nat) (ad : Nat → Nat) (S : St) (V : Vt) (o : Nat) : Option (St × Vt) := cg (ad S.1 == S.2.2.2.2) (bd S.1 (fun q5 => bd (nwA S 11 80) (fun S => bd (zV V q5) (fun V7 => cg (ooB S o 1) (bd (stP S o 0 (q5 + 1)) (fun S => some (S, V7)))))))
set_option maxHeartbeats 4000000 in
set_option maxRecDepth 100000 in
theorem c_X1_init (l : Launch) (D : va_G) (cy : Nat → ClassId) (ad : Nat → Nat) (A : Nat → Prop) (aK aV : Nat → Nat) (C0 : Cx ad A (KX A aK aV)) (N : Nat) (S : St) (V : Vt) (o : Nat) (S' : St) (V' : Vt) (h : f_X1_init N ad S V o = some (S', V')) : Met l yX1_init (mw yX1_init cX1_init 1 none) { frames := 1, cells := 1, slots := 80, locals := 64 } (PreM D cy ad (KX A aK aV) S V [.ref (ad o)]) (QV D cy ad A S' V') 1 80 A := by
  refine ct_goK C0 (own := RX1) rfl (by decide) rfl ?_
  intro p e s m below meth c ls H locs hKc X hr hlocks hnm hl w
  have hx := X.1.1
  have hb := X.1.2.1
  have hown := X.2.1
  have hts := X.2.2.1
  have hl : lv_has ls 1 [(0, .ref (ad o))] := hl
  rw [f_X1_init] at h
  refine lv_aload_n hx hb dX1_init_0 rfl (lv_at hl 0 rfl) ?_
  refine m_oi (rest := []) X hl ml_X1_3 (Nat.le_of_ble_eq_true rfl) (Nat.le_of_ble_eq_true rfl) dX1_init_1 ?_
  refine lv_aload_n hx hb dX1_init_4 rfl (lv_at hl 0 rfl) ?_
  refine lv_bipush (v := 80) hx hb dX1_init_5 (by decide) ?_
  obtain ⟨g6, h⟩ := cgi h
  have g6 := beq_iff_eq.mp g6
  obtain ⟨q5, eq5⟩ : ∃ y : Nat, y = S.1 := ⟨_, rfl⟩
  replace h := bdi h _ eq5
  refine m_newa (N' := 80) X w g6 (atype := .int) rfl 11 1 rfl na_int rfl nv_int ac_int (by decide) (by decide) (Nat.le_of_ble_eq_true rfl) (Nat.le_of_ble_eq_true rfl) (Nat.le_of_ble_eq_true rfl) dX1_init_7 (fun S V7 H locs eS eV7 w => ?_)
  rw [← eq5] at eV7 ⊢
  replace h := bdi h _ eS
  replace h := bdi h _ eV7
  refine W.widen (k := 1) (n := 80) (Nat.le_of_ble_eq_true rfl) (Nat.le_of_ble_eq_true rfl) ?_
  obtain ⟨g8, h⟩ := cgi h
  have g8 := ooB_of g8
  refine m_putR X w o g8.1 g8.2 ci1 0 (by decide) rfl rfl rfl rfl hnm rfl rfl fl_X1_11 dX1_init_9 (fun S H locs eS w => ?_)
  replace h := bdi h _ eS
  obtain ⟨rfl, rfl⟩ := retAv h
  refine W.widen (k := 1) (n := 80) (Nat.le_of_ble_eq_true rfl) (Nat.le_of_ble_eq_true rfl) ?_
  exact m_rv X w hr hlocks dX1_init_12
set_option maxHeartbeats 4000000 in
set_option maxRecDepth 100000 in
def f_X2_init (N : Nat) (ad : Nat → Nat) (S : St) (V : Vt) (o : Nat) : Option (St × Vt) := cg (ad S.1 == S.2.2.2.2) (bd S.1 (fun q13 => bd (nwA S 11 10) (fun S => bd (zV V q13) (fun V15 => cg (ooB S o 2) (bd (stP S o 0 (q13 + 1)) (fun S => cg (ad S.1 == S.2.2.2.2) (bd S.1 (fun q17 => bd (nwA S 11 1024) (fun S => bd (zV V15 q17) (fun V19 => cg (ooB S o 2) (bd (stP S o 1 (q17 + 1)) (fun S => cg (ad S.1 == S.2.2.2.2) (bd S.1 (fun q21 => bd (nwA S 11 1024) (fun S => bd (zV V19 q21) (fun V23 => cg (ooB S o 2) (bd (stP S o 2 (q21 + 1)) (fun S => some (S, V23)))))))))))))))))))
set_option maxHeartbeats 4000000 in
set_option maxRecDepth 100000 in
theorem c_X2_init (l : Launch) (D : va_G) (cy : Nat → ClassId) (ad : Nat → Nat) (A : Nat → Prop) (aK aV : Nat → Nat) (C0 : Cx ad A (KX A aK aV)) (N : Nat) (S : St) (V : Vt) (o : Nat) (S' : St) (V' : Vt) (h : f_X2_init N ad S V o = some (S', V')) : Met l yX2_init (mw yX2_init cX2_init 1 none) { frames := 1, cells := 3, slots := 2058, locals := 64 } (PreM D cy ad (KX A aK aV) S V [.ref (ad o)]) (QV D cy ad A S' V') 3 2058 A := by
  refine ct_goK C0 (own := RX2) rfl (by decide) rfl ?_
  intro p e s m below meth c ls H locs hKc X hr hlocks hnm hl w
  have hx := X.1.1
  have hb := X.1.2.1
  have hown := X.2.1
  have hts := X.2.2.1
  have hl : lv_has ls 1 [(0, .ref (ad o))] := hl
  rw [f_X2_init] at h
  refine lv_aload_n hx hb dX2_init_0 rfl (lv_at hl 0 rfl) ?_
  refine m_oi (rest := []) X hl ml_X2_3 (Nat.le_of_ble_eq_true rfl) (Nat.le_of_ble_eq_true rfl) dX2_init_1 ?_
  refine lv_aload_n hx hb dX2_init_4 rfl (lv_at hl 0 rfl) ?_
  refine lv_bipush (v := 10) hx hb dX2_init_5 (by decide) ?_
  obtain ⟨g14, h⟩ := cgi h
  have g14 := beq_iff_eq.mp g14
  obtain ⟨q13, eq13⟩ : ∃ y : Nat, y = S.1 := ⟨_, rfl⟩
  replace h := bdi h _ eq13
  refine m_newa (N' := 10) X w g14 (atype := .int) rfl 11 1 rfl na_int rfl nv_int ac_int (by decide) (by decide) (Nat.le_of_ble_eq_true rfl) (Nat.le_of_ble_eq_true rfl) (Nat.le_of_ble_eq_true rfl) dX2_init_7 (fun S V15 H locs eS eV15 w => ?_)
  rw [← eq13] at eV15 ⊢
  replace h := bdi h _ eS
  replace h := bdi h _ eV15
  refine W.widen (k := 1) (n := 10) (Nat.le_of_ble_eq_true rfl) (Nat.le_of_ble_eq_true rfl) ?_
  obtain ⟨g16, h⟩ := cgi h
  have g16 := ooB_of g16
  refine m_putR X w o g16.1 g16.2 ci2 0 (by decide) rfl rfl rfl rfl hnm rfl rfl fl_X2_11 dX2_init_9 (fun S H locs eS w => ?_)
  replace h := bdi h _ eS
  refine lv_aload_n hx hb dX2_init_12 rfl (lv_at hl 0 rfl) ?_
  refine lv_sipush (v := 1024) hx hb dX2_init_13 (by decide) ?_
  obtain ⟨g18, h⟩ := cgi h
  have g18 := beq_iff_eq.mp g18
  obtain ⟨q17, eq17⟩ : ∃ y : Nat, y = S.1 := ⟨_, rfl⟩
  replace h := bdi h _ eq17
  refine m_newa (N' := 1024) X w g18 (atype := .int) rfl 11 1 rfl na_int rfl nv_int ac_int (by decide) (by decide) (Nat.le_of_ble_eq_true rfl) (Nat.le_of_ble_eq_true rfl) (Nat.le_of_ble_eq_true rfl) dX2_init_16 (fun S V19 H locs eS eV19 w => ?_)
  rw [← eq17] at eV19 ⊢
  replace h := bdi h _ eS
  replace h := bdi h _ eV19
  refine W.widen (k := 2) (n := 1034) (Nat.le_of_ble_eq_true rfl) (Nat.le_of_ble_eq_true rfl) ?_
  obtain ⟨g20, h⟩ := cgi h
  have g20 := ooB_of g20
  refine m_putR X w o g20.1 g20.2 ci2 1 (by decide) rfl rfl rfl rfl hnm rfl rfl fl_X2_15 dX2_init_18 (fun S H locs eS w => ?_)
  replace h := bdi h _ eS
  refine lv_aload_n hx hb dX2_init_21 rfl (lv_at hl 0 rfl) ?_
  refine lv_sipush (v := 1024) hx hb dX2_init_22 (by decide) ?_
  obtain ⟨g22, h⟩ := cgi h
  have g22 := beq_iff_eq.mp g22
  obtain ⟨q21, eq21⟩ : ∃ y : Nat, y = S.1 := ⟨_, rfl⟩
  replace h := bdi h _ eq21
  refine m_newa (N' := 1024) X w g22 (atype := .int) rfl 11 1 rfl na_int rfl nv_int ac_int (by decide) (by decide) (Nat.le_of_ble_eq_true rfl) (Nat.le_of_ble_eq_true rfl) (Nat.le_of_ble_eq_true rfl) dX2_init_25 (fun S V23 H locs eS eV23 w => ?_)
  rw [← eq21] at eV23 ⊢
  replace h := bdi h _ eS
  replace h := bdi h _ eV23
  refine W.widen (k := 3) (n := 2058) (Nat.le_of_ble_eq_true rfl) (Nat.le_of_ble_eq_true rfl) ?_
  obtain ⟨g24, h⟩ := cgi h
  have g24 := ooB_of g24
  refine m_putR X w o g24.1 g24.2 ci2 2 (by decide) rfl rfl rfl rfl hnm rfl rfl fl_X2_18 dX2_init_27 (fun S H locs eS w => ?_)
  replace h := bdi h _ eS
  obtain ⟨rfl, rfl⟩ := retAv h
  refine W.widen (k := 3) (n := 2058) (Nat.le_of_ble_eq_true rfl) (Nat.le_of_ble_eq_true rfl) ?_
  exact m_rv X w hr hlocks dX2_init_30
set_option maxHeartbeats 4000000 in
set_option maxRecDepth 100000 in
def f_X4_init (N : Nat) (ad : Nat → Nat) (S : St) (V : Vt) (o : Nat) : Option (St × Vt) := cg (ad S.1 == S.2.2.2.2) (bd S.1 (fun q5 => bd (nwA S 11 40) (fun S => bd (zV V q5) (fun V7 => cg (ooB S o 4) (bd (stP S o 0 (q5 + 1)) (fun S => some (S, V7)))))))
set_option maxHeartbeats 4000000 in
set_option maxRecDepth 100000 in
theorem c_X4_init (l : Launch) (D : va_G) (cy : Nat → ClassId) (ad : Nat → Nat) (A : Nat → Prop) (aK aV : Nat → Nat) (C0 : Cx ad A (KX A aK aV)) (N : Nat) (S : St) (V : Vt) (o : Nat) (S' : St) (V' : Vt) (h : f_X4_init N ad S V o = some (S', V')) : Met l yX4_init (mw yX4_init cX4_init 1 none) { frames := 1, cells := 1, slots := 40, locals := 64 } (PreM D cy ad (KX A aK aV) S V [.ref (ad o)]) (QV D cy ad A S' V') 1 40 A := by
  refine ct_goK C0 (own := RX4) rfl (by decide) rfl ?_
  intro p e s m below meth c ls H locs hKc X hr hlocks hnm hl w
  have hx := X.1.1
  have hb := X.1.2.1
  have hown := X.2.1
  have hts := X.2.2.1
  have hl : lv_has ls 1 [(0, .ref (ad o))] := hl
  rw [f_X4_init] at h
  refine lv_aload_n hx hb dX4_init_0 rfl (lv_at hl 0 rfl) ?_
  refine m_oi (rest := []) X hl ml_X4_5 (Nat.le_of_ble_eq_true rfl) (Nat.le_of_ble_eq_true rfl) dX4_init_1 ?_
  refine lv_aload_n hx hb dX4_init_4 rfl (lv_at hl 0 rfl) ?_
  refine lv_bipush (v := 40) hx hb dX4_init_5 (by decide) ?_
  obtain ⟨g6, h⟩ := cgi h
  have g6 := beq_iff_eq.mp g6
  obtain ⟨q5, eq5⟩ : ∃ y : Nat, y = S.1 := ⟨_, rfl⟩
  replace h := bdi h _ eq5
  refine m_newa (N' := 40) X w g6 (atype := .int) rfl 11 1 rfl na_int rfl nv_int ac_int (by decide) (by decide) (Nat.le_of_ble_eq_true rfl) (Nat.le_of_ble_eq_true rfl) (Nat.le_of_ble_eq_true rfl) dX4_init_7 (fun S V7 H locs eS eV7 w => ?_)
  rw [← eq5] at eV7 ⊢
  replace h := bdi h _ eS
  replace h := bdi h _ eV7
  refine W.widen (k := 1) (n := 40) (Nat.le_of_ble_eq_true rfl) (Nat.le_of_ble_eq_true rfl) ?_
  obtain ⟨g8, h⟩ := cgi h
  have g8 := ooB_of g8
  refine m_putR X w o g8.1 g8.2 ci4 0 (by decide) rfl rfl rfl rfl hnm rfl rfl fl_X4_11 dX4_init_9 (fun S H locs eS w => ?_)
  replace h := bdi h _ eS
  obtain ⟨rfl, rfl⟩ := retAv h
  refine W.widen (k := 1) (n := 40) (Nat.le_of_ble_eq_true rfl) (Nat.le_of_ble_eq_true rfl) ?_
  exact m_rv X w hr hlocks dX4_init_12
set_option maxHeartbeats 4000000 in
set_option maxRecDepth 100000 in
def f_X5_init (N : Nat) (ad : Nat → Nat) (S : St) (V : Vt) (o : Nat) : Option (St × Vt) := cg (ad S.1 == S.2.2.2.2) (bd S.1 (fun q19 => bd (nwA S 11 400) (fun S => bd (zV V q19) (fun V21 => cg (ooB S o 5) (bd (stP S o 0 (q19 + 1)) (fun S => cg (ad S.1 == S.2.2.2.2) (bd S.1 (fun q23 => bd (nwA S 11 400) (fun S => bd (zV V21 q23) (fun V25 => cg (ooB S o 5) (bd (stP S o 1 (q23 + 1)) (fun S => cg (ad S.1 == S.2.2.2.2) (bd S.1 (fun q27 => bd (nwA S 11 448) (fun S => bd (zV V25 q27) (fun V29 => cg (ooB S o 5) (bd (stP S o 2 (q27 + 1)) (fun S => cg (ad S.1 == S.2.2.2.2) (bd S.1 (fun q31 => bd (nwA S 11 72) (fun S => bd (zV V29 q31) (fun V33 => cg (ooB S o 5) (bd (stP S o 3 (q31 + 1)) (fun S => cg (ooB S o 5) (bd (sF V33 o 8 (-1 : Int32)) (fun V36 => some (S, V36)))))))))))))))))))))))))))
set_option maxHeartbeats 4000000 in
set_option maxRecDepth 100000 in
theorem c_X5_init (l : Launch) (D : va_G) (cy : Nat → ClassId) (ad : Nat → Nat) (A : Nat → Prop) (aK aV : Nat → Nat) (C0 : Cx ad A (KX A aK aV)) (N : Nat) (S : St) (V : Vt) (o : Nat) (S' : St) (V' : Vt) (h : f_X5_init N ad S V o = some (S', V')) : Met l yX5_init (mw yX5_init cX5_init 1 none) { frames := 1, cells := 4, slots := 1320, locals := 64 } (PreM D cy ad (KX A aK aV) S V [.ref (ad o)]) (QV D cy ad A S' V') 4 1320 A := by
  refine ct_goK C0 (own := RX5) rfl (by decide) rfl ?_
  intro p e s m below meth c ls H locs hKc X hr hlocks hnm hl w
  have hx := X.1.1
  have hb := X.1.2.1
  have hown := X.2.1
  have hts := X.2.2.1
  have hl : lv_has ls 1 [(0, .ref (ad o))] := hl
  rw [f_X5_init] at h
  refine lv_aload_n hx hb dX5_init_0 rfl (lv_at hl 0 rfl) ?_
  refine m_oi (rest := []) X hl ml_X5_3 (Nat.le_of_ble_eq_true rfl) (Nat.le_of_ble_eq_true rfl) dX5_init_1 ?_
  refine lv_aload_n hx hb dX5_init_4 rfl (lv_at hl 0 rfl) ?_
  refine lv_sipush (v := 400) hx hb dX5_init_5 (by decide) ?_
  obtain ⟨g20, h⟩ := cgi h
  have g20 := beq_iff_eq.mp g20
  obtain ⟨q19, eq19⟩ : ∃ y : Nat, y = S.1 := ⟨_, rfl⟩
  replace h := bdi h _ eq19
  refine m_newa (N' := 400) X w g20 (atype := .int) rfl 11 1 rfl na_int rfl nv_int ac_int (by decide) (by decide) (Nat.le_of_ble_eq_true rfl) (Nat.le_of_ble_eq_true rfl) (Nat.le_of_ble_eq_true rfl) dX5_init_8 (fun S V21 H locs eS eV21 w => ?_)
  rw [← eq19] at eV21 ⊢
  replace h := bdi h _ eS
  replace h := bdi h _ eV21
  refine W.widen (k := 1) (n := 400) (Nat.le_of_ble_eq_true rfl) (Nat.le_of_ble_eq_true rfl) ?_
  obtain ⟨g22, h⟩ := cgi h
  have g22 := ooB_of g22
  refine m_putR X w o g22.1 g22.2 ci5 0 (by decide) rfl rfl rfl rfl hnm rfl rfl fl_X5_9 dX5_init_10 (fun S H locs eS w => ?_)
  replace h := bdi h _ eS
  refine lv_aload_n hx hb dX5_init_13 rfl (lv_at hl 0 rfl) ?_
  refine lv_sipush (v := 400) hx hb dX5_init_14 (by decide) ?_
  obtain ⟨g24, h⟩ := cgi h
  have g24 := beq_iff_eq.mp g24
  obtain ⟨q23, eq23⟩ : ∃ y : Nat, y = S.1 := ⟨_, rfl⟩
  replace h := bdi h _ eq23
  refine m_newa (N' := 400) X w g24 (atype := .int) rfl 11 1 rfl na_int rfl nv_int ac_int (by decide) (by decide) (Nat.le_of_ble_eq_true rfl) (Nat.le_of_ble_eq_true rfl) (Nat.le_of_ble_eq_true rfl) dX5_init_17 (fun S V25 H locs eS eV25 w => ?_)
  rw [← eq23] at eV25 ⊢
  replace h := bdi h _ eS
  replace h := bdi h _ eV25
  refine W.widen (k := 2) (n := 800) (Nat.le_of_ble_eq_true rfl) (Nat.le_of_ble_eq_true rfl) ?_
  obtain ⟨g26, h⟩ := cgi h
  have g26 := ooB_of g26
  refine m_putR X w o g26.1 g26.2 ci5 1 (by decide) rfl rfl rfl rfl hnm rfl rfl fl_X5_15 dX5_init_19 (fun S H locs eS w => ?_)
  replace h := bdi h _ eS
  refine lv_aload_n hx hb dX5_init_22 rfl (lv_at hl 0 rfl) ?_
  refine lv_sipush (v := 448) hx hb dX5_init_23 (by decide) ?_
  obtain ⟨g28, h⟩ := cgi h
  have g28 := beq_iff_eq.mp g28
  obtain ⟨q27, eq27⟩ : ∃ y : Nat, y = S.1 := ⟨_, rfl⟩
  replace h := bdi h _ eq27
  refine m_newa (N' := 448) X w g28 (atype := .int) rfl 11 1 rfl na_int rfl nv_int ac_int (by decide) (by decide) (Nat.le_of_ble_eq_true rfl) (Nat.le_of_ble_eq_true rfl) (Nat.le_of_ble_eq_true rfl) dX5_init_26 (fun S V29 H locs eS eV29 w => ?_)
  rw [← eq27] at eV29 ⊢
  replace h := bdi h _ eS
  replace h := bdi h _ eV29
  refine W.widen (k := 3) (n := 1248) (Nat.le_of_ble_eq_true rfl) (Nat.le_of_ble_eq_true rfl) ?_
  obtain ⟨g30, h⟩ := cgi h
  have g30 := ooB_of g30
  refine m_putR X w o g30.1 g30.2 ci5 2 (by decide) rfl rfl rfl rfl hnm rfl rfl fl_X5_18 dX5_init_28 (fun S H locs eS w => ?_)
  replace h := bdi h _ eS
  refine lv_aload_n hx hb dX5_init_31 rfl (lv_at hl 0 rfl) ?_
  refine lv_bipush (v := 72) hx hb dX5_init_32 (by decide) ?_
  obtain ⟨g32, h⟩ := cgi h
  have g32 := beq_iff_eq.mp g32
  obtain ⟨q31, eq31⟩ : ∃ y : Nat, y = S.1 := ⟨_, rfl⟩
  replace h := bdi h _ eq31
  refine m_newa (N' := 72) X w g32 (atype := .int) rfl 11 1 rfl na_int rfl nv_int ac_int (by decide) (by decide) (Nat.le_of_ble_eq_true rfl) (Nat.le_of_ble_eq_true rfl) (Nat.le_of_ble_eq_true rfl) dX5_init_34 (fun S V33 H locs eS eV33 w => ?_)
  rw [← eq31] at eV33 ⊢
  replace h := bdi h _ eS
  replace h := bdi h _ eV33
  refine W.widen (k := 4) (n := 1320) (Nat.le_of_ble_eq_true rfl) (Nat.le_of_ble_eq_true rfl) ?_
  obtain ⟨g34, h⟩ := cgi h
  have g34 := ooB_of g34
  refine m_putR X w o g34.1 g34.2 ci5 3 (by decide) rfl rfl rfl rfl hnm rfl rfl fl_X5_23 dX5_init_36 (fun S H locs eS w => ?_)
  replace h := bdi h _ eS
  refine lv_aload_n hx hb dX5_init_39 rfl (lv_at hl 0 rfl) ?_
  refine lv_iconst (v := (-1)) hx hb dX5_init_40 (by decide) ?_
  obtain ⟨g35, h⟩ := cgi h
  have g35 := ooB_of g35
  refine m_put X w o g35.1 g35.2 ci5 8 (by decide) rfl rfl rfl rfl rfl fl_X5_26 dX5_init_41 (fun V36 H locs eV36 w => ?_)
  replace h := bdi h _ eV36
  obtain ⟨rfl, rfl⟩ := retAv h
  refine W.widen (k := 4) (n := 1320) (Nat.le_of_ble_eq_true rfl) (Nat.le_of_ble_eq_true rfl) ?_
  exact m_rv X w hr hlocks dX5_init_44
set_option maxHeartbeats 4000000 in
set_option maxRecDepth 100000 in
def f_X6_init (N : Nat) (ad : Nat → Nat) (S : St) (V : Vt) (o : Nat) : Option (St × Vt) := cg (ad S.1 == S.2.2.2.2) (bd S.1 (fun q11 => bd (nwO S 4) (fun S => bd (zV V q11) (fun V13 => oav (f_X4_init N ad S V13 q11) (fun S V14 => cg (ooB S o 6) (bd (stP S o 0 (q11 + 1)) (fun S => cg (ad S.1 == S.2.2.2.2) (bd S.1 (fun q17 => bd (nwA S 11 10) (fun S => bd (zV V14 q17) (fun V19 => cg (ooB S o 6) (bd (stP S o 1 (q17 + 1)) (fun S => some (S, V19))))))))))))))
set_option maxHeartbeats 4000000 in
set_option maxRecDepth 100000 in
theorem c_X6_init (l : Launch) (D : va_G) (cy : Nat → ClassId) (ad : Nat → Nat) (A : Nat → Prop) (aK aV : Nat → Nat) (C0 : Cx ad A (KX A aK aV)) (N : Nat) (S : St) (V : Vt) (o : Nat) (S' : St) (V' : Vt) (h : f_X6_init N ad S V o = some (S', V')) : Met l yX6_init (mw yX6_init cX6_init 1 none) { frames := 2, cells := 3, slots := 52, locals := 84 } (PreM D cy ad (KX A aK aV) S V [.ref (ad o)]) (QV D cy ad A S' V') 3 52 A := by
  refine ct_goK C0 (own := RX6) rfl (by decide) rfl ?_
  intro p e s m below meth c ls H locs hKc X hr hlocks hnm hl w
  have hx := X.1.1
  have hb := X.1.2.1
  have hown := X.2.1
  have hts := X.2.2.1
  have hl : lv_has ls 1 [(0, .ref (ad o))] := hl
  rw [f_X6_init] at h
  refine lv_aload_n hx hb dX6_init_0 rfl (lv_at hl 0 rfl) ?_
  refine m_oi (rest := []) X hl ml_X6_3 (Nat.le_of_ble_eq_true rfl) (Nat.le_of_ble_eq_true rfl) dX6_init_1 ?_
  refine lv_aload_n hx hb dX6_init_4 rfl (lv_at hl 0 rfl) ?_
  obtain ⟨g12, h⟩ := cgi h
  have g12 := beq_iff_eq.mp g12
  obtain ⟨q11, eq11⟩ : ∃ y : Nat, y = S.1 := ⟨_, rfl⟩
  replace h := bdi h _ eq11
  refine m_new X w g12 ci4 dv_4 cl_X6_9 in_4 ii_4 dX6_init_5 (Nat.le_of_ble_eq_true rfl) (Nat.le_of_ble_eq_true rfl) (fun S V13 H locs eS eV13 w => ?_)
  rw [← eq11] at eV13 ⊢
  replace h := bdi h _ eS
  replace h := bdi h _ eV13
  refine W.widen (k := 1) (n := 2) (Nat.le_of_ble_eq_true rfl) (Nat.le_of_ble_eq_true rfl) ?_
  refine lv_dup hx hb dX6_init_8 rfl ?_
  obtain ⟨S, V14, q15, h⟩ := oavi h
  refine m_cv (m_rIN (As := []) (rest := [.ref (ad q11), .ref (ad o)]) X w hl mi_X4_init nm_X6_11 (ad q11) (c_X4_init l D cy ad A aK aV C0 N _ V13 q11 _ _ q15) ⟨⟨rfl, rfl, (Nat.le_of_ble_eq_true rfl), (Nat.le_of_ble_eq_true rfl)⟩, (Nat.le_of_ble_eq_true rfl), (Nat.le_of_ble_eq_true rfl)⟩ rfl rfl (Nat.le_of_ble_eq_true rfl) dX6_init_9) w (fun H locs w => ?_)
  refine W.widen (k := 2) (n := 42) (Nat.le_of_ble_eq_true rfl) (Nat.le_of_ble_eq_true rfl) ?_
  obtain ⟨g16, h⟩ := cgi h
  have g16 := ooB_of g16
  refine m_putR X w o g16.1 g16.2 ci6 0 (by decide) rfl rfl rfl rfl hnm rfl rfl fl_X6_12 dX6_init_12 (fun S H locs eS w => ?_)
  replace h := bdi h _ eS
  refine lv_aload_n hx hb dX6_init_15 rfl (lv_at hl 0 rfl) ?_
  refine lv_bipush (v := 10) hx hb dX6_init_16 (by decide) ?_
  obtain ⟨g18, h⟩ := cgi h
  have g18 := beq_iff_eq.mp g18
  obtain ⟨q17, eq17⟩ : ∃ y : Nat, y = S.1 := ⟨_, rfl⟩
  replace h := bdi h _ eq17
  refine m_newa (N' := 10) X w g18 (atype := .int) rfl 11 1 rfl na_int rfl nv_int ac_int (by decide) (by decide) (Nat.le_of_ble_eq_true rfl) (Nat.le_of_ble_eq_true rfl) (Nat.le_of_ble_eq_true rfl) dX6_init_18 (fun S V19 H locs eS eV19 w => ?_)
  rw [← eq17] at eV19 ⊢
  replace h := bdi h _ eS
  replace h := bdi h _ eV19
  refine W.widen (k := 3) (n := 52) (Nat.le_of_ble_eq_true rfl) (Nat.le_of_ble_eq_true rfl) ?_
  obtain ⟨g20, h⟩ := cgi h
  have g20 := ooB_of g20
  refine m_putR X w o g20.1 g20.2 ci6 1 (by decide) rfl rfl rfl rfl hnm rfl rfl fl_X6_18 dX6_init_20 (fun S H locs eS w => ?_)
  replace h := bdi h _ eS
  obtain ⟨rfl, rfl⟩ := retAv h
  refine W.widen (k := 3) (n := 52) (Nat.le_of_ble_eq_true rfl) (Nat.le_of_ble_eq_true rfl) ?_
  exact m_rv X w hr hlocks dX6_init_23
set_option maxHeartbeats 4000000 in
set_option maxRecDepth 100000 in
def f_X7_init (N : Nat) (ad : Nat → Nat) (S : St) (V : Vt) (o : Nat) (a1 : Nat) (a2 : Nat) (a3 : Int32) : Option (St × Vt) := cg (ooB S o 7) (bd (stP S o 0 (a1 + 1)) (fun S => cg (ooB S o 7) (bd (stP S o 1 (a2 + 1)) (fun S => cg (ooB S o 7) (bd (sF V o 2 a3) (fun V8 => some (S, V8)))))))
set_option maxHeartbeats 4000000 in
set_option maxRecDepth 100000 in
theorem c_X7_init (l : Launch) (D : va_G) (cy : Nat → ClassId) (ad : Nat → Nat) (A : Nat → Prop) (aK aV : Nat → Nat) (C0 : Cx ad A (KX A aK aV)) (N : Nat) (S : St) (V : Vt) (o : Nat) (a1 : Nat) (a2 : Nat) (a3 : Int32) (S' : St) (V' : Vt) (h : f_X7_init N ad S V o a1 a2 a3 = some (S', V')) : Met l yX7_init (mw yX7_init cX7_init 4 none) { frames := 1, cells := 0, slots := 0, locals := 64 } (PreM D cy ad (KX A aK aV) S V [.ref (ad o), .ref (ad a1), .ref (ad a2), .int a3]) (QV D cy ad A S' V') 0 0 A := by
  refine ct_goK C0 (own := RX7) rfl (by decide) rfl ?_
  intro p e s m below meth c ls H locs hKc X hr hlocks hnm hl w
  have hx := X.1.1
  have hb := X.1.2.1
  have hown := X.2.1
  have hts := X.2.2.1
  have hl : lv_has ls 4 [(0, .ref (ad o)), (1, .ref (ad a1)), (2, .ref (ad a2)), (3, .int a3)] := hl
  rw [f_X7_init] at h
  refine lv_aload_n hx hb dX7_init_0 rfl (lv_at hl 0 rfl) ?_
  refine m_oi (rest := []) X hl ml_X7_1 (Nat.le_of_ble_eq_true rfl) (Nat.le_of_ble_eq_true rfl) dX7_init_1 ?_
  refine lv_aload_n hx hb dX7_init_4 rfl (lv_at hl 0 rfl) ?_
  refine lv_aload_n hx hb dX7_init_5 rfl (lv_at hl 1 rfl) ?_
  obtain ⟨g5, h⟩ := cgi h
  have g5 := ooB_of g5
  refine m_putR X w o g5.1 g5.2 ci7 0 (by decide) rfl rfl rfl rfl hnm rfl rfl fl_X7_7 dX7_init_6 (fun S H locs eS w => ?_)
  replace h := bdi h _ eS
  refine lv_aload_n hx hb dX7_init_9 rfl (lv_at hl 0 rfl) ?_
  refine lv_aload_n hx hb dX7_init_10 rfl (lv_at hl 2 rfl) ?_
  obtain ⟨g6, h⟩ := cgi h
  have g6 := ooB_of g6
  refine m_putR X w o g6.1 g6.2 ci7 1 (by decide) rfl rfl rfl rfl hnm rfl rfl fl_X7_13 dX7_init_11 (fun S H locs eS w => ?_)
  replace h := bdi h _ eS
  refine lv_aload_n hx hb dX7_init_14 rfl (lv_at hl 0 rfl) ?_
  refine lv_iload_n hx hb dX7_init_15 rfl (lv_at hl 3 rfl) ?_
  obtain ⟨g7, h⟩ := cgi h
  have g7 := ooB_of g7
  refine m_putF X w o g7.1 g7.2 ci7 2 (by decide) rfl rfl rfl rfl hnm rfl rfl fl_X7_16 dX7_init_16 (fun V8 H locs eV8 w => ?_)
  replace h := bdi h _ eV8
  obtain ⟨rfl, rfl⟩ := retAv h
  refine W.widen (k := 0) (n := 0) (Nat.le_of_ble_eq_true rfl) (Nat.le_of_ble_eq_true rfl) ?_
  exact m_rv X w hr hlocks dX7_init_19
set_option maxHeartbeats 4000000 in
set_option maxRecDepth 100000 in
def f_X3_init (N : Nat) (ad : Nat → Nat) (S : St) (V : Vt) (o : Nat) : Option (St × Vt) := cg (ad S.1 == S.2.2.2.2) (bd S.1 (fun q23 => bd (nwO S 6) (fun S => bd (zV V q23) (fun V25 => oav (f_X6_init N ad S V25 q23) (fun S V26 => cg (ooB S o 3) (bd (stP S o 0 (q23 + 1)) (fun S => cg (ad S.1 == S.2.2.2.2) (bd S.1 (fun q29 => bd (nwA S 11 26) (fun S => bd (zV V26 q29) (fun V31 => cg (ooB S o 3) (bd (stP S o 1 (q29 + 1)) (fun S => cg (ad S.1 == S.2.2.2.2) (bd S.1 (fun q33 => bd (nwA S 11 25) (fun S => bd (zV V31 q33) (fun V35 => cg (ooB S o 3) (bd (stP S o 2 (q33 + 1)) (fun S => cg (ad S.1 == S.2.2.2.2) (bd S.1 (fun q37 => bd (nwA S 11 26) (fun S => bd (zV V35 q37) (fun V39 => cg (ooB S o 3) (bd (stP S o 3 (q37 + 1)) (fun S => cg (ad S.1 == S.2.2.2.2) (bd S.1 (fun q41 => bd (nwA S 11 150) (fun S => bd (zV V39 q41) (fun V43 => cg (ooB S o 3) (bd (stP S o 4 (q41 + 1)) (fun S => some (S, V43))))))))))))))))))))))))))))))))
set_option maxHeartbeats 4000000 in
set_option maxRecDepth 100000 in
theorem c_X3_init (l : Launch) (D : va_G) (cy : Nat → ClassId) (ad : Nat → Nat) (A : Nat → Prop) (aK aV : Nat → Nat) (C0 : Cx ad A (KX A aK aV)) (N : Nat) (S : St) (V : Vt) (o : Nat) (S' : St) (V' : Vt) (h : f_X3_init N ad S V o = some (S', V')) : Met l yX3_init (mw yX3_init cX3_init 1 none) { frames := 3, cells := 8, slots := 281, locals := 104 } (PreM D cy ad (KX A aK aV) S V [.ref (ad o)]) (QV D cy ad A S' V') 8 281 A := by
  refine ct_goK C0 (own := RX3) rfl (by decide) rfl ?_
  intro p e s m below meth c ls H locs hKc X hr hlocks hnm hl w
  have hx := X.1.1
  have hb := X.1.2.1
  have hown := X.2.1
  have hts := X.2.2.1
  have hl : lv_has ls 1 [(0, .ref (ad o))] := hl
  rw [f_X3_init] at h
  refine lv_aload_n hx hb dX3_init_0 rfl (lv_at hl 0 rfl) ?_
  refine m_oi (rest := []) X hl ml_X3_3 (Nat.le_of_ble_eq_true rfl) (Nat.le_of_ble_eq_true rfl) dX3_init_1 ?_
  refine lv_aload_n hx hb dX3_init_4 rfl (lv_at hl 0 rfl) ?_
  obtain ⟨g24, h⟩ := cgi h
  have g24 := beq_iff_eq.mp g24
  obtain ⟨q23, eq23⟩ : ∃ y : Nat, y = S.1 := ⟨_, rfl⟩
  replace h := bdi h _ eq23
  refine m_new X w g24 ci6 dv_6 cl_X3_9 in_6 ii_6 dX3_init_5 (Nat.le_of_ble_eq_true rfl) (Nat.le_of_ble_eq_true rfl) (fun S V25 H locs eS eV25 w => ?_)
  rw [← eq23] at eV25 ⊢
  replace h := bdi h _ eS
  replace h := bdi h _ eV25
  refine W.widen (k := 1) (n := 2) (Nat.le_of_ble_eq_true rfl) (Nat.le_of_ble_eq_true rfl) ?_
  refine lv_dup hx hb dX3_init_8 rfl ?_
  obtain ⟨S, V26, q27, h⟩ := oavi h
  refine m_cv (m_rIN (As := []) (rest := [.ref (ad q23), .ref (ad o)]) X w hl mi_X6_init nm_X3_11 (ad q23) (c_X6_init l D cy ad A aK aV C0 N _ V25 q23 _ _ q27) ⟨⟨rfl, rfl, (Nat.le_of_ble_eq_true rfl), (Nat.le_of_ble_eq_true rfl)⟩, (Nat.le_of_ble_eq_true rfl), (Nat.le_of_ble_eq_true rfl)⟩ rfl rfl (Nat.le_of_ble_eq_true rfl) dX3_init_9) w (fun H locs w => ?_)
  refine W.widen (k := 4) (n := 54) (Nat.le_of_ble_eq_true rfl) (Nat.le_of_ble_eq_true rfl) ?_
  obtain ⟨g28, h⟩ := cgi h
  have g28 := ooB_of g28
  refine m_putR X w o g28.1 g28.2 ci3 0 (by decide) rfl rfl rfl rfl hnm rfl rfl fl_X3_12 dX3_init_12 (fun S H locs eS w => ?_)
  replace h := bdi h _ eS
  refine lv_aload_n hx hb dX3_init_15 rfl (lv_at hl 0 rfl) ?_
  refine lv_bipush (v := 26) hx hb dX3_init_16 (by decide) ?_
  obtain ⟨g30, h⟩ := cgi h
  have g30 := beq_iff_eq.mp g30
  obtain ⟨q29, eq29⟩ : ∃ y : Nat, y = S.1 := ⟨_, rfl⟩
  replace h := bdi h _ eq29
  refine m_newa (N' := 26) X w g30 (atype := .int) rfl 11 1 rfl na_int rfl nv_int ac_int (by decide) (by decide) (Nat.le_of_ble_eq_true rfl) (Nat.le_of_ble_eq_true rfl) (Nat.le_of_ble_eq_true rfl) dX3_init_18 (fun S V31 H locs eS eV31 w => ?_)
  rw [← eq29] at eV31 ⊢
  replace h := bdi h _ eS
  replace h := bdi h _ eV31
  refine W.widen (k := 5) (n := 80) (Nat.le_of_ble_eq_true rfl) (Nat.le_of_ble_eq_true rfl) ?_
  obtain ⟨g32, h⟩ := cgi h
  have g32 := ooB_of g32
  refine m_putR X w o g32.1 g32.2 ci3 1 (by decide) rfl rfl rfl rfl hnm rfl rfl fl_X3_18 dX3_init_20 (fun S H locs eS w => ?_)
  replace h := bdi h _ eS
  refine lv_aload_n hx hb dX3_init_23 rfl (lv_at hl 0 rfl) ?_
  refine lv_bipush (v := 25) hx hb dX3_init_24 (by decide) ?_
  obtain ⟨g34, h⟩ := cgi h
  have g34 := beq_iff_eq.mp g34
  obtain ⟨q33, eq33⟩ : ∃ y : Nat, y = S.1 := ⟨_, rfl⟩
  replace h := bdi h _ eq33
  refine m_newa (N' := 25) X w g34 (atype := .int) rfl 11 1 rfl na_int rfl nv_int ac_int (by decide) (by decide) (Nat.le_of_ble_eq_true rfl) (Nat.le_of_ble_eq_true rfl) (Nat.le_of_ble_eq_true rfl) dX3_init_26 (fun S V35 H locs eS eV35 w => ?_)
  rw [← eq33] at eV35 ⊢
  replace h := bdi h _ eS
  replace h := bdi h _ eV35
  refine W.widen (k := 6) (n := 105) (Nat.le_of_ble_eq_true rfl) (Nat.le_of_ble_eq_true rfl) ?_
  obtain ⟨g36, h⟩ := cgi h
  have g36 := ooB_of g36
  refine m_putR X w o g36.1 g36.2 ci3 2 (by decide) rfl rfl rfl rfl hnm rfl rfl fl_X3_22 dX3_init_28 (fun S H locs eS w => ?_)
  replace h := bdi h _ eS
  refine lv_aload_n hx hb dX3_init_31 rfl (lv_at hl 0 rfl) ?_
  refine lv_bipush (v := 26) hx hb dX3_init_32 (by decide) ?_
  obtain ⟨g38, h⟩ := cgi h
  have g38 := beq_iff_eq.mp g38
  obtain ⟨q37, eq37⟩ : ∃ y : Nat, y = S.1 := ⟨_, rfl⟩
  replace h := bdi h _ eq37
  refine m_newa (N' := 26) X w g38 (atype := .int) rfl 11 1 rfl na_int rfl nv_int ac_int (by decide) (by decide) (Nat.le_of_ble_eq_true rfl) (Nat.le_of_ble_eq_true rfl) (Nat.le_of_ble_eq_true rfl) dX3_init_34 (fun S V39 H locs eS eV39 w => ?_)
  rw [← eq37] at eV39 ⊢
  replace h := bdi h _ eS
  replace h := bdi h _ eV39
  refine W.widen (k := 7) (n := 131) (Nat.le_of_ble_eq_true rfl) (Nat.le_of_ble_eq_true rfl) ?_
  obtain ⟨g40, h⟩ := cgi h
  have g40 := ooB_of g40
  refine m_putR X w o g40.1 g40.2 ci3 3 (by decide) rfl rfl rfl rfl hnm rfl rfl fl_X3_25 dX3_init_36 (fun S H locs eS w => ?_)
  replace h := bdi h _ eS
  refine lv_aload_n hx hb dX3_init_39 rfl (lv_at hl 0 rfl) ?_
  refine lv_sipush (v := 150) hx hb dX3_init_40 (by decide) ?_
  obtain ⟨g42, h⟩ := cgi h
  have g42 := beq_iff_eq.mp g42
  obtain ⟨q41, eq41⟩ : ∃ y : Nat, y = S.1 := ⟨_, rfl⟩
  replace h := bdi h _ eq41
  refine m_newa (N' := 150) X w g42 (atype := .int) rfl 11 1 rfl na_int rfl nv_int ac_int (by decide) (by decide) (Nat.le_of_ble_eq_true rfl) (Nat.le_of_ble_eq_true rfl) (Nat.le_of_ble_eq_true rfl) dX3_init_43 (fun S V43 H locs eS eV43 w => ?_)
  rw [← eq41] at eV43 ⊢
  replace h := bdi h _ eS
  replace h := bdi h _ eV43
  refine W.widen (k := 8) (n := 281) (Nat.le_of_ble_eq_true rfl) (Nat.le_of_ble_eq_true rfl) ?_
  obtain ⟨g44, h⟩ := cgi h
  have g44 := ooB_of g44
  refine m_putR X w o g44.1 g44.2 ci3 4 (by decide) rfl rfl rfl rfl hnm rfl rfl fl_X3_28 dX3_init_45 (fun S H locs eS w => ?_)
  replace h := bdi h _ eS
  obtain ⟨rfl, rfl⟩ := retAv h
  refine W.widen (k := 8) (n := 281) (Nat.le_of_ble_eq_true rfl) (Nat.le_of_ble_eq_true rfl) ?_
  exact m_rv X w hr hlocks dX3_init_48
set_option maxHeartbeats 4000000 in
set_option maxRecDepth 100000 in
def f_X8_init (N : Nat) (ad : Nat → Nat) (S : St) (V : Vt) (o : Nat) : Option (St × Vt) := cg (ad S.1 == S.2.2.2.2) (bd S.1 (fun q83 => bd (nwO S 0) (fun S => bd (zV V q83) (fun V85 => oav (f_X0_init N ad S V85 q83) (fun S V86 => cg (ooB S o 8) (bd (stP S o 0 (q83 + 1)) (fun S => cg (ad S.1 == S.2.2.2.2) (bd S.1 (fun q89 => bd (nwA S 14 2) (fun S => bd (zV V86 q89) (fun V91 => cg (ooB S o 8) (bd (stP S o 1 (q89 + 1)) (fun S => cg (ad S.1 == S.2.2.2.2) (bd S.1 (fun q93 => bd (nwO S 0) (fun S => bd (zV V91 q93) (fun V95 => oav (f_X0_init N ad S V95 q93) (fun S V96 => cg (ooB S o 8) (bd (stP S o 2 (q93 + 1)) (fun S => cg (ad S.1 == S.2.2.2.2) (bd S.1 (fun q99 => bd (nwO S 0) (fun S => bd (zV V96 q99) (fun V101 => oav (f_X0_init N ad S V101 q99) (fun S V102 => cg (ooB S o 8) (bd (stP S o 3 (q99 + 1)) (fun S => cg (ad S.1 == S.2.2.2.2) (bd S.1 (fun q105 => bd (nwO S 1) (fun S => bd (zV V102 q105) (fun V107 => oav (f_X1_init N ad S V107 q105) (fun S V108 => cg (ooB S o 8) (bd (stP S o 4 (q105 + 1)) (fun S => cg (ad S.1 == S.2.2.2.2) (bd S.1 (fun q111 => bd (nwO S 1) (fun S => bd (zV V108 q111) (fun V113 => oav (f_X1_init N ad S V113 q111) (fun S V114 => cg (ooB S o 8) (bd (stP S o 5 (q111 + 1)) (fun S => cg (ad S.1 == S.2.2.2.2) (bd S.1 (fun q117 => bd (nwA S 11 400) (fun S => bd (zV V114 q117) (fun V119 => cg (ooB S o 8) (bd (stP S o 6 (q117 + 1)) (fun S => cg (ad S.1 == S.2.2.2.2) (bd S.1 (fun q121 => bd (nwO S 5) (fun S => bd (zV V119 q121) (fun V123 => oav (f_X5_init N ad S V123 q121) (fun S V124 => cg (ooB S o 8) (bd (stP S o 7 (q121 + 1)) (fun S => cg (ad S.1 == S.2.2.2.2) (bd S.1 (fun q127 => bd (nwO S 4) (fun S => bd (zV V124 q127) (fun V129 => oav (f_X4_init N ad S V129 q127) (fun S V130 => cg (ooB S o 8) (bd (stP S o 8 (q127 + 1)) (fun S => cg (ad S.1 == S.2.2.2.2) (bd S.1 (fun q133 => bd (nwO S 6) (fun S => bd (zV V130 q133) (fun V135 => oav (f_X6_init N ad S V135 q133) (fun S V136 => cg (ooB S o 8) (bd (stP S o 9 (q133 + 1)) (fun S => cg (ad S.1 == S.2.2.2.2) (bd S.1 (fun q139 => bd (nwO S 3) (fun S => bd (zV V136 q139) (fun V141 => oav (f_X3_init N ad S V141 q139) (fun S V142 => cg (ooB S o 8) (bd (stP S o 10 (q139 + 1)) (fun S => cg (ad S.1 == S.2.2.2.2) (bd S.1 (fun q145 => bd (nwO S 2) (fun S => bd (zV V142 q145) (fun V147 => oav (f_X2_init N ad S V147 q145) (fun S V148 => cg (ooB S o 8) (bd (stP S o 11 (q145 + 1)) (fun S => cg (ad S.1 == S.2.2.2.2) (bd S.1 (fun q151 => bd (nwA S 11 43) (fun S => bd (zV V148 q151) (fun V153 => cg (ooB S o 8) (bd (stP S o 12 (q151 + 1)) (fun S => cg (ad S.1 == S.2.2.2.2) (bd S.1 (fun q155 => bd (nwA S 12 20) (fun S => bd (zV V153 q155) (fun V157 => cg (ooB S o 8) (bd (stP S o 13 (q155 + 1)) (fun S => cg (ad S.1 == S.2.2.2.2) (bd S.1 (fun q159 => bd (nwA S 11 5) (fun S => bd (zV V157 q159) (fun V161 => cg (ooB S o 8) (bd (stP S o 14 (q159 + 1)) (fun S => cg (ooB S o 8) (bd (sF V161 o 17 (-1 : Int32)) (fun V164 => some (S, V164)))))))))))))))))))))))))))))))))))))))))))))))))))))))))))))))))))))))))))))))))))))))))))))))))))))))
set_option maxHeartbeats 4000000 in
set_option maxRecDepth 100000 in
theorem c_X8_init (l : Launch) (D : va_G) (cy : Nat → ClassId) (ad : Nat → Nat) (A : Nat → Prop) (aK aV : Nat → Nat) (C0 : Cx ad A (KX A aK aV)) (N : Nat) (S : St) (V : Vt) (o : Nat) (S' : St) (V' : Vt) (h : f_X8_init N ad S V o = some (S', V')) : Met l yX8_init (mw yX8_init cX8_init 1 none) { frames := 4, cells := 63, slots := 4850, locals := 124 } (PreM D cy ad (KX A aK aV) S V [.ref (ad o)]) (QV D cy ad A S' V') 63 4850 A := by
  refine ct_goK C0 (own := RX8) rfl (by decide) rfl ?_
  intro p e s m below meth c ls H locs hKc X hr hlocks hnm hl w
  have hx := X.1.1
  have hb := X.1.2.1
  have hown := X.2.1
  have hts := X.2.2.1
  have hl : lv_has ls 1 [(0, .ref (ad o))] := hl
  rw [f_X8_init] at h
  refine lv_aload_n hx hb dX8_init_0 rfl (lv_at hl 0 rfl) ?_
  refine m_oi (rest := []) X hl ml_X8_3 (Nat.le_of_ble_eq_true rfl) (Nat.le_of_ble_eq_true rfl) dX8_init_1 ?_
  refine lv_aload_n hx hb dX8_init_4 rfl (lv_at hl 0 rfl) ?_
  obtain ⟨g84, h⟩ := cgi h
  have g84 := beq_iff_eq.mp g84
  obtain ⟨q83, eq83⟩ : ∃ y : Nat, y = S.1 := ⟨_, rfl⟩
  replace h := bdi h _ eq83
  refine m_new X w g84 ci0 dv_0 cl_X8_9 in_0 ii_0 dX8_init_5 (Nat.le_of_ble_eq_true rfl) (Nat.le_of_ble_eq_true rfl) (fun S V85 H locs eS eV85 w => ?_)
  rw [← eq83] at eV85 ⊢
  replace h := bdi h _ eS
  replace h := bdi h _ eV85
  refine W.widen (k := 1) (n := 14) (Nat.le_of_ble_eq_true rfl) (Nat.le_of_ble_eq_true rfl) ?_
  refine lv_dup hx hb dX8_init_8 rfl ?_
  obtain ⟨S, V86, q87, h⟩ := oavi h
  refine m_cv (m_rIN (As := []) (rest := [.ref (ad q83), .ref (ad o)]) X w hl mi_X0_init nm_X8_11 (ad q83) (c_X0_init l D cy ad A aK aV C0 N _ V85 q83 _ _ q87) ⟨⟨rfl, rfl, (Nat.le_of_ble_eq_true rfl), (Nat.le_of_ble_eq_true rfl)⟩, (Nat.le_of_ble_eq_true rfl), (Nat.le_of_ble_eq_true rfl)⟩ rfl rfl (Nat.le_of_ble_eq_true rfl) dX8_init_9) w (fun H locs w => ?_)
  refine W.widen (k := 10) (n := 147) (Nat.le_of_ble_eq_true rfl) (Nat.le_of_ble_eq_true rfl) ?_
  obtain ⟨g88, h⟩ := cgi h
  have g88 := ooB_of g88
  refine m_putR X w o g88.1 g88.2 ci8 0 (by decide) rfl rfl rfl rfl hnm rfl rfl fl_X8_12 dX8_init_12 (fun S H locs eS w => ?_)
  replace h := bdi h _ eS
  refine lv_aload_n hx hb dX8_init_15 rfl (lv_at hl 0 rfl) ?_
  refine lv_iconst (v := 2) hx hb dX8_init_16 (by decide) ?_
  obtain ⟨g90, h⟩ := cgi h
  have g90 := beq_iff_eq.mp g90
  obtain ⟨q89, eq89⟩ : ∃ y : Nat, y = S.1 := ⟨_, rfl⟩
  replace h := bdi h _ eq89
  refine m_newq (N' := 2) X w g90 14 4 rfl rfl rfl rfl cl_X8_9 hKc.2.2.2.2.2.1 (by decide) (by decide) (Nat.le_of_ble_eq_true rfl) (Nat.le_of_ble_eq_true rfl) (Nat.le_of_ble_eq_true rfl) dX8_init_17 (fun S V91 H locs eS eV91 w => ?_)
  rw [← eq89] at eV91 ⊢
  replace h := bdi h _ eS
  replace h := bdi h _ eV91
  refine W.widen (k := 11) (n := 149) (Nat.le_of_ble_eq_true rfl) (Nat.le_of_ble_eq_true rfl) ?_
  obtain ⟨g92, h⟩ := cgi h
  have g92 := ooB_of g92
  refine m_putR X w o g92.1 g92.2 ci8 1 (by decide) rfl rfl rfl rfl hnm rfl rfl fl_X8_16 dX8_init_20 (fun S H locs eS w => ?_)
  replace h := bdi h _ eS
  refine lv_aload_n hx hb dX8_init_23 rfl (lv_at hl 0 rfl) ?_
  obtain ⟨g94, h⟩ := cgi h
  have g94 := beq_iff_eq.mp g94
  obtain ⟨q93, eq93⟩ : ∃ y : Nat, y = S.1 := ⟨_, rfl⟩
  replace h := bdi h _ eq93
  refine m_new X w g94 ci0 dv_0 cl_X8_9 in_0 ii_0 dX8_init_24 (Nat.le_of_ble_eq_true rfl) (Nat.le_of_ble_eq_true rfl) (fun S V95 H locs eS eV95 w => ?_)
  rw [← eq93] at eV95 ⊢
  replace h := bdi h _ eS
  replace h := bdi h _ eV95
  refine W.widen (k := 12) (n := 163) (Nat.le_of_ble_eq_true rfl) (Nat.le_of_ble_eq_true rfl) ?_
  refine lv_dup hx hb dX8_init_27 rfl ?_
  obtain ⟨S, V96, q97, h⟩ := oavi h
  refine m_cv (m_rIN (As := []) (rest := [.ref (ad q93), .ref (ad o)]) X w hl mi_X0_init nm_X8_11 (ad q93) (c_X0_init l D cy ad A aK aV C0 N _ V95 q93 _ _ q97) ⟨⟨rfl, rfl, (Nat.le_of_ble_eq_true rfl), (Nat.le_of_ble_eq_true rfl)⟩, (Nat.le_of_ble_eq_true rfl), (Nat.le_of_ble_eq_true rfl)⟩ rfl rfl (Nat.le_of_ble_eq_true rfl) dX8_init_28) w (fun H locs w => ?_)
  refine W.widen (k := 21) (n := 296) (Nat.le_of_ble_eq_true rfl) (Nat.le_of_ble_eq_true rfl) ?_
  obtain ⟨g98, h⟩ := cgi h
  have g98 := ooB_of g98
  refine m_putR X w o g98.1 g98.2 ci8 2 (by decide) rfl rfl rfl rfl hnm rfl rfl fl_X8_20 dX8_init_31 (fun S H locs eS w => ?_)
  replace h := bdi h _ eS
  refine lv_aload_n hx hb dX8_init_34 rfl (lv_at hl 0 rfl) ?_
  obtain ⟨g100, h⟩ := cgi h
  have g100 := beq_iff_eq.mp g100
  obtain ⟨q99, eq99⟩ : ∃ y : Nat, y = S.1 := ⟨_, rfl⟩
  replace h := bdi h _ eq99
  refine m_new X w g100 ci0 dv_0 cl_X8_9 in_0 ii_0 dX8_init_35 (Nat.le_of_ble_eq_true rfl) (Nat.le_of_ble_eq_true rfl) (fun S V101 H locs eS eV101 w => ?_)
  rw [← eq99] at eV101 ⊢
  replace h := bdi h _ eS
  replace h := bdi h _ eV101
  refine W.widen (k := 22) (n := 310) (Nat.le_of_ble_eq_true rfl) (Nat.le_of_ble_eq_true rfl) ?_
  refine lv_dup hx hb dX8_init_38 rfl ?_
  obtain ⟨S, V102, q103, h⟩ := oavi h
  refine m_cv (m_rIN (As := []) (rest := [.ref (ad q99), .ref (ad o)]) X w hl mi_X0_init nm_X8_11 (ad q99) (c_X0_init l D cy ad A aK aV C0 N _ V101 q99 _ _ q103) ⟨⟨rfl, rfl, (Nat.le_of_ble_eq_true rfl), (Nat.le_of_ble_eq_true rfl)⟩, (Nat.le_of_ble_eq_true rfl), (Nat.le_of_ble_eq_true rfl)⟩ rfl rfl (Nat.le_of_ble_eq_true rfl) dX8_init_39) w (fun H locs w => ?_)
  refine W.widen (k := 31) (n := 443) (Nat.le_of_ble_eq_true rfl) (Nat.le_of_ble_eq_true rfl) ?_
  obtain ⟨g104, h⟩ := cgi h
  have g104 := ooB_of g104
  refine m_putR X w o g104.1 g104.2 ci8 3 (by decide) rfl rfl rfl rfl hnm rfl rfl fl_X8_23 dX8_init_42 (fun S H locs eS w => ?_)
  replace h := bdi h _ eS
  refine lv_aload_n hx hb dX8_init_45 rfl (lv_at hl 0 rfl) ?_
  obtain ⟨g106, h⟩ := cgi h
  have g106 := beq_iff_eq.mp g106
  obtain ⟨q105, eq105⟩ : ∃ y : Nat, y = S.1 := ⟨_, rfl⟩
  replace h := bdi h _ eq105
  refine m_new X w g106 ci1 dv_1 cl_X8_26 in_1 ii_1 dX8_init_46 (Nat.le_of_ble_eq_true rfl) (Nat.le_of_ble_eq_true rfl) (fun S V107 H locs eS eV107 w => ?_)
  rw [← eq105] at eV107 ⊢
  replace h := bdi h _ eS
  replace h := bdi h _ eV107
  refine W.widen (k := 32) (n := 445) (Nat.le_of_ble_eq_true rfl) (Nat.le_of_ble_eq_true rfl) ?_
  refine lv_dup hx hb dX8_init_49 rfl ?_
  obtain ⟨S, V108, q109, h⟩ := oavi h
  refine m_cv (m_rIN (As := []) (rest := [.ref (ad q105), .ref (ad o)]) X w hl mi_X1_init nm_X8_28 (ad q105) (c_X1_init l D cy ad A aK aV C0 N _ V107 q105 _ _ q109) ⟨⟨rfl, rfl, (Nat.le_of_ble_eq_true rfl), (Nat.le_of_ble_eq_true rfl)⟩, (Nat.le_of_ble_eq_true rfl), (Nat.le_of_ble_eq_true rfl)⟩ rfl rfl (Nat.le_of_ble_eq_true rfl) dX8_init_50) w (fun H locs w => ?_)
  refine W.widen (k := 33) (n := 525) (Nat.le_of_ble_eq_true rfl) (Nat.le_of_ble_eq_true rfl) ?_
  obtain ⟨g110, h⟩ := cgi h
  have g110 := ooB_of g110
  refine m_putR X w o g110.1 g110.2 ci8 4 (by decide) rfl rfl rfl rfl hnm rfl rfl fl_X8_29 dX8_init_53 (fun S H locs eS w => ?_)
  replace h := bdi h _ eS
  refine lv_aload_n hx hb dX8_init_56 rfl (lv_at hl 0 rfl) ?_
  obtain ⟨g112, h⟩ := cgi h
  have g112 := beq_iff_eq.mp g112
  obtain ⟨q111, eq111⟩ : ∃ y : Nat, y = S.1 := ⟨_, rfl⟩
  replace h := bdi h _ eq111
  refine m_new X w g112 ci1 dv_1 cl_X8_26 in_1 ii_1 dX8_init_57 (Nat.le_of_ble_eq_true rfl) (Nat.le_of_ble_eq_true rfl) (fun S V113 H locs eS eV113 w => ?_)
  rw [← eq111] at eV113 ⊢
  replace h := bdi h _ eS
  replace h := bdi h _ eV113
  refine W.widen (k := 34) (n := 527) (Nat.le_of_ble_eq_true rfl) (Nat.le_of_ble_eq_true rfl) ?_
  refine lv_dup hx hb dX8_init_60 rfl ?_
  obtain ⟨S, V114, q115, h⟩ := oavi h
  refine m_cv (m_rIN (As := []) (rest := [.ref (ad q111), .ref (ad o)]) X w hl mi_X1_init nm_X8_28 (ad q111) (c_X1_init l D cy ad A aK aV C0 N _ V113 q111 _ _ q115) ⟨⟨rfl, rfl, (Nat.le_of_ble_eq_true rfl), (Nat.le_of_ble_eq_true rfl)⟩, (Nat.le_of_ble_eq_true rfl), (Nat.le_of_ble_eq_true rfl)⟩ rfl rfl (Nat.le_of_ble_eq_true rfl) dX8_init_61) w (fun H locs w => ?_)
  refine W.widen (k := 35) (n := 607) (Nat.le_of_ble_eq_true rfl) (Nat.le_of_ble_eq_true rfl) ?_
  obtain ⟨g116, h⟩ := cgi h
  have g116 := ooB_of g116
  refine m_putR X w o g116.1 g116.2 ci8 5 (by decide) rfl rfl rfl rfl hnm rfl rfl fl_X8_33 dX8_init_64 (fun S H locs eS w => ?_)
  replace h := bdi h _ eS
  refine lv_aload_n hx hb dX8_init_67 rfl (lv_at hl 0 rfl) ?_
  refine lv_sipush (v := 400) hx hb dX8_init_68 (by decide) ?_
  obtain ⟨g118, h⟩ := cgi h
  have g118 := beq_iff_eq.mp g118
  obtain ⟨q117, eq117⟩ : ∃ y : Nat, y = S.1 := ⟨_, rfl⟩
  replace h := bdi h _ eq117
  refine m_newa (N' := 400) X w g118 (atype := .int) rfl 11 1 rfl na_int rfl nv_int ac_int (by decide) (by decide) (Nat.le_of_ble_eq_true rfl) (Nat.le_of_ble_eq_true rfl) (Nat.le_of_ble_eq_true rfl) dX8_init_71 (fun S V119 H locs eS eV119 w => ?_)
  rw [← eq117] at eV119 ⊢
  replace h := bdi h _ eS
  replace h := bdi h _ eV119
  refine W.widen (k := 36) (n := 1007) (Nat.le_of_ble_eq_true rfl) (Nat.le_of_ble_eq_true rfl) ?_
  obtain ⟨g120, h⟩ := cgi h
  have g120 := ooB_of g120
  refine m_putR X w o g120.1 g120.2 ci8 6 (by decide) rfl rfl rfl rfl hnm rfl rfl fl_X8_36 dX8_init_73 (fun S H locs eS w => ?_)
  replace h := bdi h _ eS
  refine lv_aload_n hx hb dX8_init_76 rfl (lv_at hl 0 rfl) ?_
  obtain ⟨g122, h⟩ := cgi h
  have g122 := beq_iff_eq.mp g122
  obtain ⟨q121, eq121⟩ : ∃ y : Nat, y = S.1 := ⟨_, rfl⟩
  replace h := bdi h _ eq121
  refine m_new X w g122 ci5 dv_5 cl_X8_40 in_5 ii_5 dX8_init_77 (Nat.le_of_ble_eq_true rfl) (Nat.le_of_ble_eq_true rfl) (fun S V123 H locs eS eV123 w => ?_)
  rw [← eq121] at eV123 ⊢
  replace h := bdi h _ eS
  replace h := bdi h _ eV123
  refine W.widen (k := 37) (n := 1019) (Nat.le_of_ble_eq_true rfl) (Nat.le_of_ble_eq_true rfl) ?_
  refine lv_dup hx hb dX8_init_80 rfl ?_
  obtain ⟨S, V124, q125, h⟩ := oavi h
  refine m_cv (m_rIN (As := []) (rest := [.ref (ad q121), .ref (ad o)]) X w hl mi_X5_init nm_X8_42 (ad q121) (c_X5_init l D cy ad A aK aV C0 N _ V123 q121 _ _ q125) ⟨⟨rfl, rfl, (Nat.le_of_ble_eq_true rfl), (Nat.le_of_ble_eq_true rfl)⟩, (Nat.le_of_ble_eq_true rfl), (Nat.le_of_ble_eq_true rfl)⟩ rfl rfl (Nat.le_of_ble_eq_true rfl) dX8_init_81) w (fun H locs w => ?_)
  refine W.widen (k := 41) (n := 2339) (Nat.le_of_ble_eq_true rfl) (Nat.le_of_ble_eq_true rfl) ?_
  obtain ⟨g126, h⟩ := cgi h
  have g126 := ooB_of g126
  refine m_putR X w o g126.1 g126.2 ci8 7 (by decide) rfl rfl rfl rfl hnm rfl rfl fl_X8_43 dX8_init_84 (fun S H locs eS w => ?_)
  replace h := bdi h _ eS
  refine lv_aload_n hx hb dX8_init_87 rfl (lv_at hl 0 rfl) ?_
  obtain ⟨g128, h⟩ := cgi h
  have g128 := beq_iff_eq.mp g128
  obtain ⟨q127, eq127⟩ : ∃ y : Nat, y = S.1 := ⟨_, rfl⟩
  replace h := bdi h _ eq127
  refine m_new X w g128 ci4 dv_4 cl_X8_47 in_4 ii_4 dX8_init_88 (Nat.le_of_ble_eq_true rfl) (Nat.le_of_ble_eq_true rfl) (fun S V129 H locs eS eV129 w => ?_)
  rw [← eq127] at eV129 ⊢
  replace h := bdi h _ eS
  replace h := bdi h _ eV129
  refine W.widen (k := 42) (n := 2341) (Nat.le_of_ble_eq_true rfl) (Nat.le_of_ble_eq_true rfl) ?_
  refine lv_dup hx hb dX8_init_91 rfl ?_
  obtain ⟨S, V130, q131, h⟩ := oavi h
  refine m_cv (m_rIN (As := []) (rest := [.ref (ad q127), .ref (ad o)]) X w hl mi_X4_init nm_X8_49 (ad q127) (c_X4_init l D cy ad A aK aV C0 N _ V129 q127 _ _ q131) ⟨⟨rfl, rfl, (Nat.le_of_ble_eq_true rfl), (Nat.le_of_ble_eq_true rfl)⟩, (Nat.le_of_ble_eq_true rfl), (Nat.le_of_ble_eq_true rfl)⟩ rfl rfl (Nat.le_of_ble_eq_true rfl) dX8_init_92) w (fun H locs w => ?_)
  refine W.widen (k := 43) (n := 2381) (Nat.le_of_ble_eq_true rfl) (Nat.le_of_ble_eq_true rfl) ?_
  obtain ⟨g132, h⟩ := cgi h
  have g132 := ooB_of g132
  refine m_putR X w o g132.1 g132.2 ci8 8 (by decide) rfl rfl rfl rfl hnm rfl rfl fl_X8_50 dX8_init_95 (fun S H locs eS w => ?_)
  replace h := bdi h _ eS
  refine lv_aload_n hx hb dX8_init_98 rfl (lv_at hl 0 rfl) ?_
  obtain ⟨g134, h⟩ := cgi h
  have g134 := beq_iff_eq.mp g134
  obtain ⟨q133, eq133⟩ : ∃ y : Nat, y = S.1 := ⟨_, rfl⟩
  replace h := bdi h _ eq133
  refine m_new X w g134 ci6 dv_6 cl_X8_54 in_6 ii_6 dX8_init_99 (Nat.le_of_ble_eq_true rfl) (Nat.le_of_ble_eq_true rfl) (fun S V135 H locs eS eV135 w => ?_)
  rw [← eq133] at eV135 ⊢
  replace h := bdi h _ eS
  replace h := bdi h _ eV135
  refine W.widen (k := 44) (n := 2383) (Nat.le_of_ble_eq_true rfl) (Nat.le_of_ble_eq_true rfl) ?_
  refine lv_dup hx hb dX8_init_102 rfl ?_
  obtain ⟨S, V136, q137, h⟩ := oavi h
  refine m_cv (m_rIN (As := []) (rest := [.ref (ad q133), .ref (ad o)]) X w hl mi_X6_init nm_X8_56 (ad q133) (c_X6_init l D cy ad A aK aV C0 N _ V135 q133 _ _ q137) ⟨⟨rfl, rfl, (Nat.le_of_ble_eq_true rfl), (Nat.le_of_ble_eq_true rfl)⟩, (Nat.le_of_ble_eq_true rfl), (Nat.le_of_ble_eq_true rfl)⟩ rfl rfl (Nat.le_of_ble_eq_true rfl) dX8_init_103) w (fun H locs w => ?_)
  refine W.widen (k := 47) (n := 2435) (Nat.le_of_ble_eq_true rfl) (Nat.le_of_ble_eq_true rfl) ?_
  obtain ⟨g138, h⟩ := cgi h
  have g138 := ooB_of g138
  refine m_putR X w o g138.1 g138.2 ci8 9 (by decide) rfl rfl rfl rfl hnm rfl rfl fl_X8_57 dX8_init_106 (fun S H locs eS w => ?_)
  replace h := bdi h _ eS
  refine lv_aload_n hx hb dX8_init_109 rfl (lv_at hl 0 rfl) ?_
  obtain ⟨g140, h⟩ := cgi h
  have g140 := beq_iff_eq.mp g140
  obtain ⟨q139, eq139⟩ : ∃ y : Nat, y = S.1 := ⟨_, rfl⟩
  replace h := bdi h _ eq139
  refine m_new X w g140 ci3 dv_3 cl_X8_61 in_3 ii_3 dX8_init_110 (Nat.le_of_ble_eq_true rfl) (Nat.le_of_ble_eq_true rfl) (fun S V141 H locs eS eV141 w => ?_)
  rw [← eq139] at eV141 ⊢
  replace h := bdi h _ eS
  replace h := bdi h _ eV141
  refine W.widen (k := 48) (n := 2440) (Nat.le_of_ble_eq_true rfl) (Nat.le_of_ble_eq_true rfl) ?_
  refine lv_dup hx hb dX8_init_113 rfl ?_
  obtain ⟨S, V142, q143, h⟩ := oavi h
  refine m_cv (m_rIN (As := []) (rest := [.ref (ad q139), .ref (ad o)]) X w hl mi_X3_init nm_X8_63 (ad q139) (c_X3_init l D cy ad A aK aV C0 N _ V141 q139 _ _ q143) ⟨⟨rfl, rfl, (Nat.le_of_ble_eq_true rfl), (Nat.le_of_ble_eq_true rfl)⟩, (Nat.le_of_ble_eq_true rfl), (Nat.le_of_ble_eq_true rfl)⟩ rfl rfl (Nat.le_of_ble_eq_true rfl) dX8_init_114) w (fun H locs w => ?_)
  refine W.widen (k := 56) (n := 2721) (Nat.le_of_ble_eq_true rfl) (Nat.le_of_ble_eq_true rfl) ?_
  obtain ⟨g144, h⟩ := cgi h
  have g144 := ooB_of g144
  refine m_putR X w o g144.1 g144.2 ci8 10 (by decide) rfl rfl rfl rfl hnm rfl rfl fl_X8_64 dX8_init_117 (fun S H locs eS w => ?_)
  replace h := bdi h _ eS
  refine lv_aload_n hx hb dX8_init_120 rfl (lv_at hl 0 rfl) ?_
  obtain ⟨g146, h⟩ := cgi h
  have g146 := beq_iff_eq.mp g146
  obtain ⟨q145, eq145⟩ : ∃ y : Nat, y = S.1 := ⟨_, rfl⟩
  replace h := bdi h _ eq145
  refine m_new X w g146 ci2 dv_2 cl_X8_68 in_2 ii_2 dX8_init_121 (Nat.le_of_ble_eq_true rfl) (Nat.le_of_ble_eq_true rfl) (fun S V147 H locs eS eV147 w => ?_)
  rw [← eq145] at eV147 ⊢
  replace h := bdi h _ eS
  replace h := bdi h _ eV147
  refine W.widen (k := 57) (n := 2724) (Nat.le_of_ble_eq_true rfl) (Nat.le_of_ble_eq_true rfl) ?_
  refine lv_dup hx hb dX8_init_124 rfl ?_
  obtain ⟨S, V148, q149, h⟩ := oavi h
  refine m_cv (m_rIN (As := []) (rest := [.ref (ad q145), .ref (ad o)]) X w hl mi_X2_init nm_X8_70 (ad q145) (c_X2_init l D cy ad A aK aV C0 N _ V147 q145 _ _ q149) ⟨⟨rfl, rfl, (Nat.le_of_ble_eq_true rfl), (Nat.le_of_ble_eq_true rfl)⟩, (Nat.le_of_ble_eq_true rfl), (Nat.le_of_ble_eq_true rfl)⟩ rfl rfl (Nat.le_of_ble_eq_true rfl) dX8_init_125) w (fun H locs w => ?_)
  refine W.widen (k := 60) (n := 4782) (Nat.le_of_ble_eq_true rfl) (Nat.le_of_ble_eq_true rfl) ?_
  obtain ⟨g150, h⟩ := cgi h
  have g150 := ooB_of g150
  refine m_putR X w o g150.1 g150.2 ci8 11 (by decide) rfl rfl rfl rfl hnm rfl rfl fl_X8_71 dX8_init_128 (fun S H locs eS w => ?_)
  replace h := bdi h _ eS
  refine lv_aload_n hx hb dX8_init_131 rfl (lv_at hl 0 rfl) ?_
  refine lv_bipush (v := 43) hx hb dX8_init_132 (by decide) ?_
  obtain ⟨g152, h⟩ := cgi h
  have g152 := beq_iff_eq.mp g152
  obtain ⟨q151, eq151⟩ : ∃ y : Nat, y = S.1 := ⟨_, rfl⟩
  replace h := bdi h _ eq151
  refine m_newa (N' := 43) X w g152 (atype := .int) rfl 11 1 rfl na_int rfl nv_int ac_int (by decide) (by decide) (Nat.le_of_ble_eq_true rfl) (Nat.le_of_ble_eq_true rfl) (Nat.le_of_ble_eq_true rfl) dX8_init_134 (fun S V153 H locs eS eV153 w => ?_)
  rw [← eq151] at eV153 ⊢
  replace h := bdi h _ eS
  replace h := bdi h _ eV153
  refine W.widen (k := 61) (n := 4825) (Nat.le_of_ble_eq_true rfl) (Nat.le_of_ble_eq_true rfl) ?_
  obtain ⟨g154, h⟩ := cgi h
  have g154 := ooB_of g154
  refine m_putR X w o g154.1 g154.2 ci8 12 (by decide) rfl rfl rfl rfl hnm rfl rfl fl_X8_75 dX8_init_136 (fun S H locs eS w => ?_)
  replace h := bdi h _ eS
  refine lv_aload_n hx hb dX8_init_139 rfl (lv_at hl 0 rfl) ?_
  refine lv_bipush (v := 20) hx hb dX8_init_140 (by decide) ?_
  obtain ⟨g156, h⟩ := cgi h
  have g156 := beq_iff_eq.mp g156
  obtain ⟨q155, eq155⟩ : ∃ y : Nat, y = S.1 := ⟨_, rfl⟩
  replace h := bdi h _ eq155
  refine m_newa (N' := 20) X w g156 (atype := .long) rfl 12 2 rfl na_long rfl nv_long ac_long (by decide) (by decide) (Nat.le_of_ble_eq_true rfl) (Nat.le_of_ble_eq_true rfl) (Nat.le_of_ble_eq_true rfl) dX8_init_142 (fun S V157 H locs eS eV157 w => ?_)
  rw [← eq155] at eV157 ⊢
  replace h := bdi h _ eS
  replace h := bdi h _ eV157
  refine W.widen (k := 62) (n := 4845) (Nat.le_of_ble_eq_true rfl) (Nat.le_of_ble_eq_true rfl) ?_
  obtain ⟨g158, h⟩ := cgi h
  have g158 := ooB_of g158
  refine m_putR X w o g158.1 g158.2 ci8 13 (by decide) rfl rfl rfl rfl hnm rfl rfl fl_X8_78 dX8_init_144 (fun S H locs eS w => ?_)
  replace h := bdi h _ eS
  refine lv_aload_n hx hb dX8_init_147 rfl (lv_at hl 0 rfl) ?_
  refine lv_iconst (v := 5) hx hb dX8_init_148 (by decide) ?_
  obtain ⟨g160, h⟩ := cgi h
  have g160 := beq_iff_eq.mp g160
  obtain ⟨q159, eq159⟩ : ∃ y : Nat, y = S.1 := ⟨_, rfl⟩
  replace h := bdi h _ eq159
  refine m_newa (N' := 5) X w g160 (atype := .int) rfl 11 1 rfl na_int rfl nv_int ac_int (by decide) (by decide) (Nat.le_of_ble_eq_true rfl) (Nat.le_of_ble_eq_true rfl) (Nat.le_of_ble_eq_true rfl) dX8_init_149 (fun S V161 H locs eS eV161 w => ?_)
  rw [← eq159] at eV161 ⊢
  replace h := bdi h _ eS
  replace h := bdi h _ eV161
  refine W.widen (k := 63) (n := 4850) (Nat.le_of_ble_eq_true rfl) (Nat.le_of_ble_eq_true rfl) ?_
  obtain ⟨g162, h⟩ := cgi h
  have g162 := ooB_of g162
  refine m_putR X w o g162.1 g162.2 ci8 14 (by decide) rfl rfl rfl rfl hnm rfl rfl fl_X8_82 dX8_init_151 (fun S H locs eS w => ?_)
  replace h := bdi h _ eS
  refine lv_aload_n hx hb dX8_init_154 rfl (lv_at hl 0 rfl) ?_
  refine lv_iconst (v := (-1)) hx hb dX8_init_155 (by decide) ?_
  obtain ⟨g163, h⟩ := cgi h
  have g163 := ooB_of g163
  refine m_put X w o g163.1 g163.2 ci8 17 (by decide) rfl rfl rfl rfl rfl fl_X8_85 dX8_init_156 (fun V164 H locs eV164 w => ?_)
  replace h := bdi h _ eV164
  obtain ⟨rfl, rfl⟩ := retAv h
  refine W.widen (k := 63) (n := 4850) (Nat.le_of_ble_eq_true rfl) (Nat.le_of_ble_eq_true rfl) ?_
  exact m_rv X w hr hlocks dX8_init_159
