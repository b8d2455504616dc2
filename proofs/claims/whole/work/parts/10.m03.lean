def f_X9_shiftsKept (N : Nat) (V : Vt) (a1 : Int32) (a2 : Int32) (a3 : Int32) : Option (Int32 × Vt) := ob1 (f_X9_isCell N a1) (fun r19 => if r19 = 0 then some ((-1 : Int32), V) else ob1 (f_X9_isCell N a2) (fun r22 => if r22 = 0 then some ((-1 : Int32), V) else if a1 = a2 then some ((-1 : Int32), V) else ob1 (f_X9_lies N a3 (1 : Int32) (999 : Int32)) (fun r26 => if r26 = 0 then some ((-1 : Int32), V) else ck ((0 : Int32) + a1) 5715 (if (V.2.1 2 ((0 : Int32) + a1).toNatClampNeg) < a3 then some ((-3 : Int32), V) else ck ((0 : Int32) + a2) 5715 (if ((V.2.1 2 ((0 : Int32) + a2).toNatClampNeg) + a3) ≤ (999 : Int32) then obv (f_X9_keeps N V (1 : Int32)) (fun V35 => ck ((0 : Int32) + a1) 5715 (ck ((0 : Int32) + a1) 5715 (bd (sA V35 2 ((0 : Int32) + a1).toNatClampNeg ((V35.2.1 2 ((0 : Int32) + a1).toNatClampNeg) - a3)) (fun V38 => ck ((0 : Int32) + a2) 5715 (ck ((0 : Int32) + a2) 5715 (bd (sA V38 2 ((0 : Int32) + a2).toNatClampNeg ((V38.2.1 2 ((0 : Int32) + a2).toNatClampNeg) + a3)) (fun V41 => ck ((0 : Int32) + a1) 5715 (some (V41.2.1 2 ((0 : Int32) + a1).toNatClampNeg, V41))))))))) else some ((-3 : Int32), V))))))
set_option maxHeartbeats 4000000 in
set_option maxRecDepth 100000 in
theorem c_X9_shiftsKept (l : Launch) (D : va_G) (cy : Nat → ClassId) (ad : Nat → Nat) (A : Nat → Prop) (Kc : State → Prop) (C0 : Cx ad A Kc) (N : Nat) (z : Nat) (V : Vt) (a1 : Int32) (a2 : Int32) (a3 : Int32) (r : Int32) (V' : Vt) (h : f_X9_shiftsKept N V a1 a2 a3 = some (r, V')) : Met l yX9_shiftsKept (mw yX9_shiftsKept cX9_shiftsKept 4 (some .int)) { frames := 2, cells := 0, slots := 0, locals := 42 } (PreM D cy ad Kc (SM z) V [.ref (ad 0), .int a1, .int a2, .int a3]) (QI D cy ad A r (SM z) V') 0 0 A := by
  refine ct_go C0 (own := RX9) rfl (by decide) rfl ?_
  intro p e s m below meth c ls H locs X hr hlocks hnm hl w
  have hx := X.1.1
  have hb := X.1.2.1
  have hown := X.2.1
  have hts := X.2.2.1
  have hl : lv_has ls 4 [(0, .ref (ad 0)), (1, .int a1), (2, .int a2), (3, .int a3)] := hl
  rw [f_X9_shiftsKept] at h
  refine lv_iload_n hx hb dX9_shiftsKept_0 rfl (lv_at hl 1 rfl) ?_
  obtain ⟨r19, q20, h⟩ := ob1i h
  refine m_ci (m_rS (As := [.int a1]) (rest := []) X w hl mi_X9_isCell ml_X9_115 (c_X9_isCell l D cy ad A Kc C0 N z V a1 r19 q20) ⟨⟨rfl, rfl, Nat.le_of_ble_eq_true rfl, Nat.le_of_ble_eq_true rfl⟩, Nat.le_of_ble_eq_true rfl, Nat.le_of_ble_eq_true rfl⟩ rfl rfl (Nat.le_of_ble_eq_true rfl) dX9_shiftsKept_1) w (fun H locs w => ?_)
  refine lv_if_eq (tgt := 30) hx hb dX9_shiftsKept_4 (by decide) (fun c21 => ?_) (fun c21 => ?_)
  · replace h := ifT h c21
    refine lv_iconst (v := (-1)) hx hb dX9_shiftsKept_30 (by decide) ?_
    obtain ⟨rfl, rfl⟩ := reti h
    exact m_ri X w hr hlocks dX9_shiftsKept_31
  · replace h := ifF h c21
    refine lv_iload_n hx hb dX9_shiftsKept_7 rfl (lv_at hl 2 rfl) ?_
    obtain ⟨r22, q23, h⟩ := ob1i h
    refine m_ci (m_rS (As := [.int a2]) (rest := []) X w hl mi_X9_isCell ml_X9_115 (c_X9_isCell l D cy ad A Kc C0 N z V a2 r22 q23) ⟨⟨rfl, rfl, Nat.le_of_ble_eq_true rfl, Nat.le_of_ble_eq_true rfl⟩, Nat.le_of_ble_eq_true rfl, Nat.le_of_ble_eq_true rfl⟩ rfl rfl (Nat.le_of_ble_eq_true rfl) dX9_shiftsKept_8) w (fun H locs w => ?_)
    refine lv_if_eq (tgt := 30) hx hb dX9_shiftsKept_11 (by decide) (fun c24 => ?_) (fun c24 => ?_)
    · replace h := ifT h c24
      refine lv_iconst (v := (-1)) hx hb dX9_shiftsKept_30 (by decide) ?_
      obtain ⟨rfl, rfl⟩ := reti h
      exact m_ri X w hr hlocks dX9_shiftsKept_31
    · replace h := ifF h c24
      refine lv_iload_n hx hb dX9_shiftsKept_14 rfl (lv_at hl 1 rfl) ?_
      refine lv_iload_n hx hb dX9_shiftsKept_15 rfl (lv_at hl 2 rfl) ?_
      refine lv_icmp_eq (tgt := 30) hx hb dX9_shiftsKept_16 (by decide) (fun c25 => ?_) (fun c25 => ?_)
      · replace h := ifT h c25
        refine lv_iconst (v := (-1)) hx hb dX9_shiftsKept_30 (by decide) ?_
        obtain ⟨rfl, rfl⟩ := reti h
        exact m_ri X w hr hlocks dX9_shiftsKept_31
      · replace h := ifF h c25
        refine lv_iload_n hx hb dX9_shiftsKept_19 rfl (lv_at hl 3 rfl) ?_
        refine lv_iconst (v := 1) hx hb dX9_shiftsKept_20 (by decide) ?_
        refine lv_sipush (v := 999) hx hb dX9_shiftsKept_21 (by decide) ?_
        obtain ⟨r26, q27, h⟩ := ob1i h
        refine m_ci (m_rS (As := [.int a3, .int (1 : Int32), .int (999 : Int32)]) (rest := []) X w hl mi_X9_lies ml_X9_18 (c_X9_lies l D cy ad A Kc C0 N z V a3 (1 : Int32) (999 : Int32) r26 q27) ⟨⟨rfl, rfl, Nat.le_of_ble_eq_true rfl, Nat.le_of_ble_eq_true rfl⟩, Nat.le_of_ble_eq_true rfl, Nat.le_of_ble_eq_true rfl⟩ rfl rfl (Nat.le_of_ble_eq_true rfl) dX9_shiftsKept_24) w (fun H locs w => ?_)
        refine lv_if_ne (tgt := 32) hx hb dX9_shiftsKept_27 (by decide) (fun c28 => ?_) (fun c28 => ?_)
        · replace h := ifF h c28
          refine lv_aload_n hx hb dX9_shiftsKept_32 rfl (lv_at hl 0 rfl) ?_
          refine m_get X w 0 sm_n0 sm_k0 ci9 2 (by decide) (fvR sm_k0 rfl sm_p2) rfl fl_X9_28 dX9_shiftsKept_33 ?_
          refine lv_iconst (v := 0) hx hb dX9_shiftsKept_36 (by decide) ?_
          refine lv_iload_n hx hb dX9_shiftsKept_37 rfl (lv_at hl 1 rfl) ?_
          refine lv_iadd hx hb dX9_shiftsKept_38 ?_
          obtain ⟨g29, h⟩ := cki h
          refine m_iald X w 2 sm_n2 sm_k2 sm_z2 g29 dX9_shiftsKept_39 ?_
          refine lv_iload_n hx hb dX9_shiftsKept_40 rfl (lv_at hl 3 rfl) ?_
          refine lv_icmp_lt (tgt := 60) hx hb dX9_shiftsKept_41 (by decide) (fun c30 => ?_) (fun c30 => ?_)
          · replace h := ifT h c30
            refine lv_bipush (v := (-3)) hx hb dX9_shiftsKept_60 (by decide) ?_
            obtain ⟨rfl, rfl⟩ := reti h
            exact m_ri X w hr hlocks dX9_shiftsKept_62
          · replace h := ifF h c30
            refine lv_aload_n hx hb dX9_shiftsKept_44 rfl (lv_at hl 0 rfl) ?_
            refine m_get X w 0 sm_n0 sm_k0 ci9 2 (by decide) (fvR sm_k0 rfl sm_p2) rfl fl_X9_28 dX9_shiftsKept_45 ?_
            refine lv_iconst (v := 0) hx hb dX9_shiftsKept_48 (by decide) ?_
            refine lv_iload_n hx hb dX9_shiftsKept_49 rfl (lv_at hl 2 rfl) ?_
            refine lv_iadd hx hb dX9_shiftsKept_50 ?_
            obtain ⟨g31, h⟩ := cki h
            refine m_iald X w 2 sm_n2 sm_k2 sm_z2 g31 dX9_shiftsKept_51 ?_
            refine lv_iload_n hx hb dX9_shiftsKept_52 rfl (lv_at hl 3 rfl) ?_
            refine lv_iadd hx hb dX9_shiftsKept_53 ?_
            refine lv_sipush (v := 999) hx hb dX9_shiftsKept_54 (by decide) ?_
            refine lv_icmp_le (tgt := 63) hx hb dX9_shiftsKept_57 (by decide) (fun c32 => ?_) (fun c32 => ?_)
            · replace h := ifT h c32
              refine lv_aload_n hx hb dX9_shiftsKept_63 rfl (lv_at hl 0 rfl) ?_
              refine lv_iconst (v := 1) hx hb dX9_shiftsKept_64 (by decide) ?_
              obtain ⟨V35, q34, h⟩ := obvi h
              refine m_cv (m_rV (As := [.int (1 : Int32)]) (rest := []) X w hl mi_X9_keeps ml_X9_325 0 sm_n0 sm_k0 rfl (c_X9_keeps l D cy ad A Kc C0 N z V (1 : Int32) V35 q34) ⟨⟨rfl, rfl, Nat.le_of_ble_eq_true rfl, Nat.le_of_ble_eq_true rfl⟩, Nat.le_of_ble_eq_true rfl, Nat.le_of_ble_eq_true rfl⟩ rfl rfl (Nat.le_of_ble_eq_true rfl) dX9_shiftsKept_65) w (fun H locs w => ?_)
              refine lv_aload_n hx hb dX9_shiftsKept_68 rfl (lv_at hl 0 rfl) ?_
              refine m_get X w 0 sm_n0 sm_k0 ci9 2 (by decide) (fvR sm_k0 rfl sm_p2) rfl fl_X9_28 dX9_shiftsKept_69 ?_
              refine lv_iconst (v := 0) hx hb dX9_shiftsKept_72 (by decide) ?_
              refine lv_iload_n hx hb dX9_shiftsKept_73 rfl (lv_at hl 1 rfl) ?_
              refine lv_iadd hx hb dX9_shiftsKept_74 ?_
              refine lv_dup2_11 hx hb dX9_shiftsKept_75 rfl rfl ?_
              obtain ⟨g36, h⟩ := cki h
              refine m_iald X w 2 sm_n2 sm_k2 sm_z2 g36 dX9_shiftsKept_76 ?_
              refine lv_iload_n hx hb dX9_shiftsKept_77 rfl (lv_at hl 3 rfl) ?_
              refine lv_isub hx hb dX9_shiftsKept_78 ?_
              obtain ⟨g37, h⟩ := cki h
              refine m_iast X w 2 sm_n2 sm_k2 sm_z2 g37 dX9_shiftsKept_79 (fun V38 H locs eV38 w => ?_)
              replace h := bdi h _ eV38
              refine lv_aload_n hx hb dX9_shiftsKept_80 rfl (lv_at hl 0 rfl) ?_
              refine m_get X w 0 sm_n0 sm_k0 ci9 2 (by decide) (fvR sm_k0 rfl sm_p2) rfl fl_X9_28 dX9_shiftsKept_81 ?_
              refine lv_iconst (v := 0) hx hb dX9_shiftsKept_84 (by decide) ?_
              refine lv_iload_n hx hb dX9_shiftsKept_85 rfl (lv_at hl 2 rfl) ?_
              refine lv_iadd hx hb dX9_shiftsKept_86 ?_
              refine lv_dup2_11 hx hb dX9_shiftsKept_87 rfl rfl ?_
              obtain ⟨g39, h⟩ := cki h
              refine m_iald X w 2 sm_n2 sm_k2 sm_z2 g39 dX9_shiftsKept_88 ?_
              refine lv_iload_n hx hb dX9_shiftsKept_89 rfl (lv_at hl 3 rfl) ?_
              refine lv_iadd hx hb dX9_shiftsKept_90 ?_
              obtain ⟨g40, h⟩ := cki h
              refine m_iast X w 2 sm_n2 sm_k2 sm_z2 g40 dX9_shiftsKept_91 (fun V41 H locs eV41 w => ?_)
              replace h := bdi h _ eV41
              refine lv_aload_n hx hb dX9_shiftsKept_92 rfl (lv_at hl 0 rfl) ?_
              refine m_get X w 0 sm_n0 sm_k0 ci9 2 (by decide) (fvR sm_k0 rfl sm_p2) rfl fl_X9_28 dX9_shiftsKept_93 ?_
              refine lv_iconst (v := 0) hx hb dX9_shiftsKept_96 (by decide) ?_
              refine lv_iload_n hx hb dX9_shiftsKept_97 rfl (lv_at hl 1 rfl) ?_
              refine lv_iadd hx hb dX9_shiftsKept_98 ?_
              obtain ⟨g42, h⟩ := cki h
              refine m_iald X w 2 sm_n2 sm_k2 sm_z2 g42 dX9_shiftsKept_99 ?_
              obtain ⟨rfl, rfl⟩ := reti h
              exact m_ri X w hr hlocks dX9_shiftsKept_100
            · replace h := ifF h c32
              refine lv_bipush (v := (-3)) hx hb dX9_shiftsKept_60 (by decide) ?_
              obtain ⟨rfl, rfl⟩ := reti h
              exact m_ri X w hr hlocks dX9_shiftsKept_62
        · replace h := ifT h c28
          refine lv_iconst (v := (-1)) hx hb dX9_shiftsKept_30 (by decide) ?_
          obtain ⟨rfl, rfl⟩ := reti h
          exact m_ri X w hr hlocks dX9_shiftsKept_31
def f_X9_fencesKept (N : Nat) (V : Vt) (a1 : Int32) : Option (Int32 × Vt) := ob1 (f_X9_isCell N a1) (fun r12 => if r12 = 0 then some ((-1 : Int32), V) else obv (f_X9_keeps N V (2 : Int32)) (fun V17 => ck (30 : Int32) 5715 (ck (30 : Int32) 5715 (bd (sA V17 2 (30 : Int32).toNatClampNeg ((V17.2.1 2 (30 : Int32).toNatClampNeg) ^^^ ((1 : Int32) <<< (a1 &&& 31)))) (fun V20 => ck (30 : Int32) 5715 (ob1 (f_X9_isIn N (V20.2.1 2 (30 : Int32).toNatClampNeg) a1) (fun r22 => if r22 = 0 then some ((0 : Int32), V20) else some ((1 : Int32), V20))))))))
set_option maxHeartbeats 4000000 in
set_option maxRecDepth 100000 in
theorem c_X9_fencesKept (l : Launch) (D : va_G) (cy : Nat → ClassId) (ad : Nat → Nat) (A : Nat → Prop) (Kc : State → Prop) (C0 : Cx ad A Kc) (N : Nat) (z : Nat) (V : Vt) (a1 : Int32) (r : Int32) (V' : Vt) (h : f_X9_fencesKept N V a1 = some (r, V')) : Met l yX9_fencesKept (mw yX9_fencesKept cX9_fencesKept 2 (some .int)) { frames := 2, cells := 0, slots := 0, locals := 42 } (PreM D cy ad Kc (SM z) V [.ref (ad 0), .int a1]) (QI D cy ad A r (SM z) V') 0 0 A := by
  refine ct_go C0 (own := RX9) rfl (by decide) rfl ?_
  intro p e s m below meth c ls H locs X hr hlocks hnm hl w
  have hx := X.1.1
  have hb := X.1.2.1
  have hown := X.2.1
  have hts := X.2.2.1
  have hl : lv_has ls 2 [(0, .ref (ad 0)), (1, .int a1)] := hl
  rw [f_X9_fencesKept] at h
  refine lv_iload_n hx hb dX9_fencesKept_0 rfl (lv_at hl 1 rfl) ?_
  obtain ⟨r12, q13, h⟩ := ob1i h
  refine m_ci (m_rS (As := [.int a1]) (rest := []) X w hl mi_X9_isCell ml_X9_115 (c_X9_isCell l D cy ad A Kc C0 N z V a1 r12 q13) ⟨⟨rfl, rfl, Nat.le_of_ble_eq_true rfl, Nat.le_of_ble_eq_true rfl⟩, Nat.le_of_ble_eq_true rfl, Nat.le_of_ble_eq_true rfl⟩ rfl rfl (Nat.le_of_ble_eq_true rfl) dX9_fencesKept_1) w (fun H locs w => ?_)
  refine lv_if_ne (tgt := 9) hx hb dX9_fencesKept_4 (by decide) (fun c14 => ?_) (fun c14 => ?_)
  · replace h := ifF h c14
    refine lv_aload_n hx hb dX9_fencesKept_9 rfl (lv_at hl 0 rfl) ?_
    refine lv_iconst (v := 2) hx hb dX9_fencesKept_10 (by decide) ?_
    obtain ⟨V17, q16, h⟩ := obvi h
    refine m_cv (m_rV (As := [.int (2 : Int32)]) (rest := []) X w hl mi_X9_keeps ml_X9_325 0 sm_n0 sm_k0 rfl (c_X9_keeps l D cy ad A Kc C0 N z V (2 : Int32) V17 q16) ⟨⟨rfl, rfl, Nat.le_of_ble_eq_true rfl, Nat.le_of_ble_eq_true rfl⟩, Nat.le_of_ble_eq_true rfl, Nat.le_of_ble_eq_true rfl⟩ rfl rfl (Nat.le_of_ble_eq_true rfl) dX9_fencesKept_11) w (fun H locs w => ?_)
    refine lv_aload_n hx hb dX9_fencesKept_14 rfl (lv_at hl 0 rfl) ?_
    refine m_get X w 0 sm_n0 sm_k0 ci9 2 (by decide) (fvR sm_k0 rfl sm_p2) rfl fl_X9_28 dX9_fencesKept_15 ?_
    refine lv_bipush (v := 30) hx hb dX9_fencesKept_18 (by decide) ?_
    refine lv_dup2_11 hx hb dX9_fencesKept_20 rfl rfl ?_
    obtain ⟨g18, h⟩ := cki h
    refine m_iald X w 2 sm_n2 sm_k2 sm_z2 g18 dX9_fencesKept_21 ?_
    refine lv_iconst (v := 1) hx hb dX9_fencesKept_22 (by decide) ?_
    refine lv_iload_n hx hb dX9_fencesKept_23 rfl (lv_at hl 1 rfl) ?_
    refine lv_ishl hx hb dX9_fencesKept_24 ?_
    refine lv_ixor hx hb dX9_fencesKept_25 ?_
    obtain ⟨g19, h⟩ := cki h
    refine m_iast X w 2 sm_n2 sm_k2 sm_z2 g19 dX9_fencesKept_26 (fun V20 H locs eV20 w => ?_)
    replace h := bdi h _ eV20
    refine lv_aload_n hx hb dX9_fencesKept_27 rfl (lv_at hl 0 rfl) ?_
    refine m_get X w 0 sm_n0 sm_k0 ci9 2 (by decide) (fvR sm_k0 rfl sm_p2) rfl fl_X9_28 dX9_fencesKept_28 ?_
    refine lv_bipush (v := 30) hx hb dX9_fencesKept_31 (by decide) ?_
    obtain ⟨g21, h⟩ := cki h
    refine m_iald X w 2 sm_n2 sm_k2 sm_z2 g21 dX9_fencesKept_33 ?_
    refine lv_iload_n hx hb dX9_fencesKept_34 rfl (lv_at hl 1 rfl) ?_
    obtain ⟨r22, q23, h⟩ := ob1i h
    refine m_ci (m_rS (As := [.int (V20.2.1 2 (30 : Int32).toNatClampNeg), .int a1]) (rest := []) X w hl mi_X9_isIn ml_X9_119 (c_X9_isIn l D cy ad A Kc C0 N z V20 (V20.2.1 2 (30 : Int32).toNatClampNeg) a1 r22 q23) ⟨⟨rfl, rfl, Nat.le_of_ble_eq_true rfl, Nat.le_of_ble_eq_true rfl⟩, Nat.le_of_ble_eq_true rfl, Nat.le_of_ble_eq_true rfl⟩ rfl rfl (Nat.le_of_ble_eq_true rfl) dX9_fencesKept_35) w (fun H locs w => ?_)
    refine lv_if_eq (tgt := 45) hx hb dX9_fencesKept_38 (by decide) (fun c24 => ?_) (fun c24 => ?_)
    · replace h := ifT h c24
      refine lv_iconst (v := 0) hx hb dX9_fencesKept_45 (by decide) ?_
      obtain ⟨rfl, rfl⟩ := reti h
      exact m_ri X w hr hlocks dX9_fencesKept_46
    · replace h := ifF h c24
      refine lv_iconst (v := 1) hx hb dX9_fencesKept_41 (by decide) ?_
      refine lv_goto (tgt := 46) hx hb dX9_fencesKept_42 (by decide) ?_
      obtain ⟨rfl, rfl⟩ := reti h
      exact m_ri X w hr hlocks dX9_fencesKept_46
  · replace h := ifT h c14
    refine lv_iconst (v := (-1)) hx hb dX9_fencesKept_7 (by decide) ?_
    obtain ⟨rfl, rfl⟩ := reti h
    exact m_ri X w hr hlocks dX9_fencesKept_8
def f_X9_pass (N : Nat) (V : Vt) : Option (Int32 × Vt) := ob (f_X9_passesKept N V) (fun r7 V9 => ob (f_X9_goodOr N V9 r7) (fun r10 V12 => some (r10, V12)))
set_option maxHeartbeats 4000000 in
set_option maxRecDepth 100000 in
theorem c_X9_pass (l : Launch) (D : va_G) (cy : Nat → ClassId) (ad : Nat → Nat) (A : Nat → Prop) (Kc : State → Prop) (C0 : Cx ad A Kc) (N : Nat) (z : Nat) (V : Vt) (r : Int32) (V' : Vt) (h : f_X9_pass N V = some (r, V')) : Met l yX9_pass (mw yX9_pass cX9_pass 1 (some .int)) { frames := 2, cells := 0, slots := 0, locals := 43 } (PreM D cy ad Kc (SM z) V [.ref (ad 0)]) (QI D cy ad A r (SM z) V') 0 0 A := by
  refine ct_go C0 (own := RX9) rfl (by decide) rfl ?_
  intro p e s m below meth c ls H locs X hr hlocks hnm hl w
  have hx := X.1.1
  have hb := X.1.2.1
  have hown := X.2.1
  have hts := X.2.2.1
  have hl : lv_has ls 1 [(0, .ref (ad 0))] := hl
  rw [f_X9_pass] at h
  refine lv_aload_n hx hb dX9_pass_0 rfl (lv_at hl 0 rfl) ?_
  refine lv_aload_n hx hb dX9_pass_1 rfl (lv_at hl 0 rfl) ?_
  obtain ⟨r7, V9, q8, h⟩ := obi h
  refine m_ci (m_rV (As := []) (rest := [.ref (ad 0)]) X w hl mi_X9_passesKept ml_X9_345 0 sm_n0 sm_k0 rfl (c_X9_passesKept l D cy ad A Kc C0 N z V  r7 V9 q8) ⟨⟨rfl, rfl, Nat.le_of_ble_eq_true rfl, Nat.le_of_ble_eq_true rfl⟩, Nat.le_of_ble_eq_true rfl, Nat.le_of_ble_eq_true rfl⟩ rfl rfl (Nat.le_of_ble_eq_true rfl) dX9_pass_2) w (fun H locs w => ?_)
  obtain ⟨r10, V12, q11, h⟩ := obi h
  refine m_ci (m_rV (As := [.int r7]) (rest := []) X w hl mi_X9_goodOr ml_X9_335 0 sm_n0 sm_k0 rfl (c_X9_goodOr l D cy ad A Kc C0 N z V9 r7 r10 V12 q11) ⟨⟨rfl, rfl, Nat.le_of_ble_eq_true rfl, Nat.le_of_ble_eq_true rfl⟩, Nat.le_of_ble_eq_true rfl, Nat.le_of_ble_eq_true rfl⟩ rfl rfl (Nat.le_of_ble_eq_true rfl) dX9_pass_5) w (fun H locs w => ?_)
  obtain ⟨rfl, rfl⟩ := reti h
  exact m_ri X w hr hlocks dX9_pass_8
def f_X9_fewest_166 (N : Nat) (K70 : Vt → Int32 → Int32 → Option (Int32 × Vt)) (V : Vt) (v1 : Int32) (v2 : Int32) : Option (Int32 × Vt) := bd (v2 + (1 : Int32)) (fun x44 => K70 V v1 x44)
def f_X9_fewest_155 (N : Nat) (K102 : Vt → Int32 → Int32 → Int32 → Int32 → Option (Int32 × Vt)) (V : Vt) (v1 : Int32) (v2 : Int32) (v3 : Int32) (v4 : Int32) : Option (Int32 × Vt) := bd ((v4 - (1 : Int32)) &&& v2) (fun x46 => K102 V v1 v2 v3 x46)
def f_X9_fewest_102 (N : Nat) (K70 : Vt → Int32 → Int32 → Option (Int32 × Vt)) : Nat → Vt → Int32 → Int32 → Int32 → Int32 → Option (Int32 × Vt)
  | 0, _, _, _, _, _ => none
  | n + 1, V, v1, v2, v3, v4 => if v4 ≤ 0 then f_X9_fewest_166 N K70 V v1 v2 else if (v4 &&& v3) = 0 then f_X9_fewest_155 N (f_X9_fewest_102 N K70 n) V v1 v2 v3 v4 else ck v4 1024 (if (V.2.1 16 v4.toNatClampNeg) = 0 then ck v2 1024 (ob1 (f_X9_heapCost N v4) (fun r50 => ck (v2 ^^^ v4) 1024 (ob1 (f_X9_lesser N (V.2.1 17 v2.toNatClampNeg) (r50 + (V.2.1 17 (v2 ^^^ v4).toNatClampNeg))) (fun r53 => ck v2 1024 (bd (sA V 17 v2.toNatClampNeg r53) (fun V56 => f_X9_fewest_155 N (f_X9_fewest_102 N K70 n) V56 v1 v2 v3 v4)))))) else f_X9_fewest_155 N (f_X9_fewest_102 N K70 n) V v1 v2 v3 v4)
def f_X9_fewest_70 (N : Nat) : Nat → Vt → Int32 → Int32 → Option (Int32 × Vt)
  | 0, _, _, _ => none
  | n + 1, V, v1, v2 => if v1 < v2 then ck v1 1024 (some (V.2.1 17 v1.toNatClampNeg, V)) else if (v2 &&& (v1 ^^^ (-1 : Int32))) = 0 then bd (v2 &&& (-v2)) (fun x40 => ck v2 1024 (bd (sA V 17 v2.toNatClampNeg (1000000 : Int32)) (fun V42 => f_X9_fewest_102 N (f_X9_fewest_70 N n) N V42 v1 v2 x40 v2))) else f_X9_fewest_166 N (f_X9_fewest_70 N n) V v1 v2
def f_X9_fewest_38 (N : Nat) (K4 : Vt → Int32 → Int32 → Option (Int32 × Vt)) (V : Vt) (v2 : Int32) (s0 : Int32) (s1 : Int32) : Option (Int32 × Vt) := bd (s1 ||| s0) (fun x63 => bd (v2 + (1 : Int32)) (fun x64 => K4 V x63 x64))
def f_X9_fewest_4 (N : Nat) : Nat → Vt → Int32 → Int32 → Option (Int32 × Vt)
  | 0, _, _, _ => none
  | n + 1, V, v1, v2 => if (10 : Int32) ≤ v2 then obv (f_X9_laysBalance N V) (fun V32 => ck v1 1024 (if (V32.2.1 16 v1.toNatClampNeg) = 0 then ck (0 : Int32) 1024 (bd (sA V32 17 (0 : Int32).toNatClampNeg (0 : Int32)) (fun V36 => f_X9_fewest_70 N N V36 v1 (1 : Int32))) else some ((-1 : Int32), V32))) else ob1 (f_X9_offBy N V v2) (fun r57 => ck v2 10 (bd (sA V 15 v2.toNatClampNeg r57) (fun V60 => ck v2 10 (if (V60.2.1 15 v2.toNatClampNeg) = 0 then f_X9_fewest_38 N (f_X9_fewest_4 N n) V60 v2 (0 : Int32) v1 else f_X9_fewest_38 N (f_X9_fewest_4 N n) V60 v2 ((1 : Int32) <<< (v2 &&& 31)) v1))))
def f_X9_fewest (N : Nat) (V : Vt) : Option (Int32 × Vt) := f_X9_fewest_4 N N V (0 : Int32) (0 : Int32)
set_option maxHeartbeats 4000000 in
set_option maxRecDepth 100000 in
theorem c_X9_fewest (l : Launch) (D : va_G) (cy : Nat → ClassId) (ad : Nat → Nat) (A : Nat → Prop) (Kc : State → Prop) (C0 : Cx ad A Kc) (N : Nat) (z : Nat) (V : Vt) (r : Int32) (V' : Vt) (h : f_X9_fewest N V = some (r, V')) : Met l yX9_fewest (mw yX9_fewest cX9_fewest 5 (some .int)) { frames := 2, cells := 0, slots := 0, locals := 43 } (PreM D cy ad Kc (SM z) V [.ref (ad 0)]) (QI D cy ad A r (SM z) V') 0 0 A := by
  refine ct_go C0 (own := RX9) rfl (by decide) rfl ?_
  intro p e s m below meth c ls H locs X hr hlocks hnm hl w
  have hx := X.1.1
  have hb := X.1.2.1
  have hown := X.2.1
  have hts := X.2.2.1
  have hl : lv_has ls 5 [(0, .ref (ad 0))] := hl
  obtain ⟨G, hG⟩ : ∃ G : Nat → Vt → List (Nat × Value) → List Value → Prop, G = fun pc V lv st => ∀ (H : Heap) (locs : List Loc) (ls : Array Slot), Wd D cy ad A s.heap (SM z) V H locs → lv_has ls 5 lv → W p l e { frames := 2, cells := 0, slots := 0, locals := 43 } s m ([.ref (ad 0)] : List Value).toArray below meth c H locs 0 0 (MQ below (QI D cy ad A r (SM z) V') ([.ref (ad 0)] : List Value).toArray s 0 0 A) (F0 m pc ls st) := ⟨_, rfl⟩
  have L70 : ∀ (n70 : Nat) (V : Vt) (v1 : Int32) (v2 : Int32), f_X9_fewest_70 N n70 V v1 v2 = some (r, V') → G 70 V [(0, .ref (ad 0)), (1, .int v1), (2, .int v2)] [] := by
    intro n70
    induction n70 with
    | zero => intro V v1 v2 h; rw [f_X9_fewest_70] at h; cases h
    | succ n70 ih70 =>
      have B166 : ∀ (V : Vt) (v1 : Int32) (v2 : Int32), f_X9_fewest_166 N (f_X9_fewest_70 N n70) V v1 v2 = some (r, V') → G 166 V [(0, .ref (ad 0)), (1, .int v1), (2, .int v2)] [] := by
        intro V v1 v2 h
        rw [hG]
        intro H locs ls w hl
        rw [f_X9_fewest_166] at h
        obtain ⟨x44, ex44⟩ : ∃ y : Int32, y = v2 + (1 : Int32) := ⟨_, rfl⟩
        replace h := bdi h _ ex44
        refine lv_iinc (v := x44) (lv' := [(2, .int x44), (0, .ref (ad 0)), (1, .int v1)]) hx hb dX9_fewest_166 hl (k := 2) rfl (by rw [ex44]; rfl) (by decide) rfl (fun ls hl => ?_)
        refine lv_goto (tgt := 70) hx hb dX9_fewest_169 (by decide) ?_
        have g := ih70 V v1 x44 h
        rw [hG] at g
        exact g H locs ls w (lv_sub hl [1, 2, 0] rfl)
      have L102 : ∀ (n102 : Nat) (V : Vt) (v1 : Int32) (v2 : Int32) (v3 : Int32) (v4 : Int32), f_X9_fewest_102 N (f_X9_fewest_70 N n70) n102 V v1 v2 v3 v4 = some (r, V') → G 102 V [(0, .ref (ad 0)), (1, .int v1), (2, .int v2), (3, .int v3), (4, .int v4)] [] := by
        intro n102
        induction n102 with
        | zero => intro V v1 v2 v3 v4 h; rw [f_X9_fewest_102] at h; cases h
        | succ n102 ih102 =>
          have B155 : ∀ (V : Vt) (v1 : Int32) (v2 : Int32) (v3 : Int32) (v4 : Int32), f_X9_fewest_155 N (f_X9_fewest_102 N (f_X9_fewest_70 N n70) n102) V v1 v2 v3 v4 = some (r, V') → G 155 V [(0, .ref (ad 0)), (1, .int v1), (2, .int v2), (3, .int v3), (4, .int v4)] [] := by
            intro V v1 v2 v3 v4 h
            rw [hG]
            intro H locs ls w hl
            rw [f_X9_fewest_155] at h
            refine lv_iload hx hb dX9_fewest_155 (lv_at hl 4 rfl) ?_
            refine lv_iconst (v := 1) hx hb dX9_fewest_157 (by decide) ?_
            refine lv_isub hx hb dX9_fewest_158 ?_
            refine lv_iload_n hx hb dX9_fewest_159 rfl (lv_at hl 2 rfl) ?_
            refine lv_iand hx hb dX9_fewest_160 ?_
            refine lv_topi (fun x46 ex46 => ?_)
            replace h := bdi h _ ex46
            refine lv_istore (lv' := [(4, .int x46), (0, .ref (ad 0)), (1, .int v1), (2, .int v2), (3, .int v3)]) hx hb dX9_fewest_161 hl (by decide) rfl (fun ls hl => ?_)
            refine lv_goto (tgt := 102) hx hb dX9_fewest_163 (by decide) ?_
            have g := ih102 V v1 v2 v3 x46 h
            rw [hG] at g
            exact g H locs ls w (lv_sub hl [1, 2, 3, 4, 0] rfl)
          intro V v1 v2 v3 v4 h
          rw [hG]
          intro H locs ls w hl
          rw [f_X9_fewest_102] at h
          refine lv_iload hx hb dX9_fewest_102 (lv_at hl 4 rfl) ?_
          refine lv_if_le (tgt := 166) hx hb dX9_fewest_104 (by decide) (fun c43 => ?_) (fun c43 => ?_)
          · replace h := ifT h c43
            have g := B166 V v1 v2 h
            rw [hG] at g
            exact g H locs ls w (lv_sub hl [0, 1, 2] rfl)
          · replace h := ifF h c43
            refine lv_iload hx hb dX9_fewest_107 (lv_at hl 4 rfl) ?_
            refine lv_iload_n hx hb dX9_fewest_109 rfl (lv_at hl 3 rfl) ?_
            refine lv_iand hx hb dX9_fewest_110 ?_
            refine lv_if_eq (tgt := 155) hx hb dX9_fewest_111 (by decide) (fun c45 => ?_) (fun c45 => ?_)
            · replace h := ifT h c45
              have g := B155 V v1 v2 v3 v4 h
              rw [hG] at g
              exact g H locs ls w (lv_sub hl [0, 1, 2, 3, 4] rfl)
            · replace h := ifF h c45
              refine lv_aload_n hx hb dX9_fewest_114 rfl (lv_at hl 0 rfl) ?_
              refine m_get X w 0 sm_n0 sm_k0 ci9 33 (by decide) (fvR sm_k0 rfl sm_p33) rfl fl_X9_75 dX9_fewest_115 ?_
              refine lv_iload hx hb dX9_fewest_118 (lv_at hl 4 rfl) ?_
              obtain ⟨g47, h⟩ := cki h
              refine m_iald X w 16 sm_n16 sm_k16 sm_z16 g47 dX9_fewest_120 ?_
              refine lv_if_ne (tgt := 155) hx hb dX9_fewest_121 (by decide) (fun c48 => ?_) (fun c48 => ?_)
              · replace h := ifF h c48
                have g := B155 V v1 v2 v3 v4 h
                rw [hG] at g
                exact g H locs ls w (lv_sub hl [0, 1, 2, 3, 4] rfl)
              · replace h := ifT h c48
                refine lv_aload_n hx hb dX9_fewest_124 rfl (lv_at hl 0 rfl) ?_
                refine m_get X w 0 sm_n0 sm_k0 ci9 34 (by decide) (fvR sm_k0 rfl sm_p34) rfl fl_X9_78 dX9_fewest_125 ?_
                refine lv_iload_n hx hb dX9_fewest_128 rfl (lv_at hl 2 rfl) ?_
                refine lv_aload_n hx hb dX9_fewest_129 rfl (lv_at hl 0 rfl) ?_
                refine m_get X w 0 sm_n0 sm_k0 ci9 34 (by decide) (fvR sm_k0 rfl sm_p34) rfl fl_X9_78 dX9_fewest_130 ?_
                refine lv_iload_n hx hb dX9_fewest_133 rfl (lv_at hl 2 rfl) ?_
                obtain ⟨g49, h⟩ := cki h
                refine m_iald X w 17 sm_n17 sm_k17 sm_z17 g49 dX9_fewest_134 ?_
                refine lv_aload_n hx hb dX9_fewest_135 rfl (lv_at hl 0 rfl) ?_
                refine lv_iload hx hb dX9_fewest_136 (lv_at hl 4 rfl) ?_
                obtain ⟨r50, q51, h⟩ := ob1i h
                refine m_ci (m_rV (As := [.int v4]) (rest := [.int (V.2.1 17 v2.toNatClampNeg), .int v2, .ref (ad 17)]) X w hl mi_X9_heapCost ml_X9_358 0 sm_n0 sm_k0 rfl (c_X9_heapCost l D cy ad A Kc C0 N z V v4 r50 q51) ⟨⟨rfl, rfl, Nat.le_of_ble_eq_true rfl, Nat.le_of_ble_eq_true rfl⟩, Nat.le_of_ble_eq_true rfl, Nat.le_of_ble_eq_true rfl⟩ rfl rfl (Nat.le_of_ble_eq_true rfl) dX9_fewest_138) w (fun H locs w => ?_)
                refine lv_aload_n hx hb dX9_fewest_141 rfl (lv_at hl 0 rfl) ?_
                refine m_get X w 0 sm_n0 sm_k0 ci9 34 (by decide) (fvR sm_k0 rfl sm_p34) rfl fl_X9_78 dX9_fewest_142 ?_
                refine lv_iload_n hx hb dX9_fewest_145 rfl (lv_at hl 2 rfl) ?_
                refine lv_iload hx hb dX9_fewest_146 (lv_at hl 4 rfl) ?_
                refine lv_ixor hx hb dX9_fewest_148 ?_
                obtain ⟨g52, h⟩ := cki h
                refine m_iald X w 17 sm_n17 sm_k17 sm_z17 g52 dX9_fewest_149 ?_
                refine lv_iadd hx hb dX9_fewest_150 ?_
                obtain ⟨r53, q54, h⟩ := ob1i h
                refine m_ci (m_rS (As := [.int (V.2.1 17 v2.toNatClampNeg), .int (r50 + (V.2.1 17 (v2 ^^^ v4).toNatClampNeg))]) (rest := [.int v2, .ref (ad 17)]) X w hl mi_X9_lesser ml_X9_319 (c_X9_lesser l D cy ad A Kc C0 N z V (V.2.1 17 v2.toNatClampNeg) (r50 + (V.2.1 17 (v2 ^^^ v4).toNatClampNeg)) r53 q54) ⟨⟨rfl, rfl, Nat.le_of_ble_eq_true rfl, Nat.le_of_ble_eq_true rfl⟩, Nat.le_of_ble_eq_true rfl, Nat.le_of_ble_eq_true rfl⟩ rfl rfl (Nat.le_of_ble_eq_true rfl) dX9_fewest_151) w (fun H locs w => ?_)
                obtain ⟨g55, h⟩ := cki h
                refine m_iast X w 17 sm_n17 sm_k17 sm_z17 g55 dX9_fewest_154 (fun V56 H locs eV56 w => ?_)
                replace h := bdi h _ eV56
                have g := B155 V56 v1 v2 v3 v4 h
                rw [hG] at g
                exact g H locs ls w (lv_sub hl [0, 1, 2, 3, 4] rfl)
      intro V v1 v2 h
      rw [hG]
      intro H locs ls w hl
      rw [f_X9_fewest_70] at h
      refine lv_iload_n hx hb dX9_fewest_70 rfl (lv_at hl 2 rfl) ?_
      refine lv_iload_n hx hb dX9_fewest_71 rfl (lv_at hl 1 rfl) ?_
      refine lv_icmp_gt (tgt := 172) hx hb dX9_fewest_72 (by decide) (fun c37 => ?_) (fun c37 => ?_)
      · replace h := ifT h c37
        refine lv_aload_n hx hb dX9_fewest_172 rfl (lv_at hl 0 rfl) ?_
        refine m_get X w 0 sm_n0 sm_k0 ci9 34 (by decide) (fvR sm_k0 rfl sm_p34) rfl fl_X9_78 dX9_fewest_173 ?_
        refine lv_iload_n hx hb dX9_fewest_176 rfl (lv_at hl 1 rfl) ?_
        obtain ⟨g38, h⟩ := cki h
        refine m_iald X w 17 sm_n17 sm_k17 sm_z17 g38 dX9_fewest_177 ?_
        obtain ⟨rfl, rfl⟩ := reti h
        exact m_ri X w hr hlocks dX9_fewest_178
      · replace h := ifF h c37
        refine lv_iload_n hx hb dX9_fewest_75 rfl (lv_at hl 2 rfl) ?_
        refine lv_iload_n hx hb dX9_fewest_76 rfl (lv_at hl 1 rfl) ?_
        refine lv_iconst (v := (-1)) hx hb dX9_fewest_77 (by decide) ?_
        refine lv_ixor hx hb dX9_fewest_78 ?_
        refine lv_iand hx hb dX9_fewest_79 ?_
        refine lv_if_eq (tgt := 86) hx hb dX9_fewest_80 (by decide) (fun c39 => ?_) (fun c39 => ?_)
        · replace h := ifT h c39
          refine lv_iload_n hx hb dX9_fewest_86 rfl (lv_at hl 2 rfl) ?_
          refine lv_iload_n hx hb dX9_fewest_87 rfl (lv_at hl 2 rfl) ?_
          refine lv_ineg hx hb dX9_fewest_88 ?_
          refine lv_iand hx hb dX9_fewest_89 ?_
          refine lv_topi (fun x40 ex40 => ?_)
          replace h := bdi h _ ex40
          refine lv_istore_n (lv' := [(3, .int x40), (0, .ref (ad 0)), (1, .int v1), (2, .int v2)]) hx hb dX9_fewest_90 rfl hl (by decide) rfl (fun ls hl => ?_)
          refine lv_aload_n hx hb dX9_fewest_91 rfl (lv_at hl 1 rfl) ?_
          refine m_get X w 0 sm_n0 sm_k0 ci9 34 (by decide) (fvR sm_k0 rfl sm_p34) rfl fl_X9_78 dX9_fewest_92 ?_
          refine lv_iload_n hx hb dX9_fewest_95 rfl (lv_at hl 3 rfl) ?_
          refine lv_ldc (v := 1000000) hx hb hown (hts _ kc_X9_170) dX9_fewest_96 ?_
          obtain ⟨g41, h⟩ := cki h
          refine m_iast X w 17 sm_n17 sm_k17 sm_z17 g41 dX9_fewest_98 (fun V42 H locs eV42 w => ?_)
          replace h := bdi h _ eV42
          refine lv_iload_n hx hb dX9_fewest_99 rfl (lv_at hl 3 rfl) ?_
          refine lv_istore (lv' := [(4, .int v2), (3, .int x40), (0, .ref (ad 0)), (1, .int v1), (2, .int v2)]) hx hb dX9_fewest_100 hl (by decide) rfl (fun ls hl => ?_)
          have g := L102 N V42 v1 v2 x40 v2 h
          rw [hG] at g
          exact g H locs ls w (lv_sub hl [2, 3, 4, 1, 0] rfl)
        · replace h := ifF h c39
          refine lv_goto (tgt := 166) hx hb dX9_fewest_83 (by decide) ?_
          have g := B166 V v1 v2 h
          rw [hG] at g
          exact g H locs ls w (lv_sub hl [0, 1, 2] rfl)
  have L4 : ∀ (n4 : Nat) (V : Vt) (v1 : Int32) (v2 : Int32), f_X9_fewest_4 N n4 V v1 v2 = some (r, V') → G 4 V [(0, .ref (ad 0)), (1, .int v1), (2, .int v2)] [] := by
    intro n4
    induction n4 with
    | zero => intro V v1 v2 h; rw [f_X9_fewest_4] at h; cases h
    | succ n4 ih4 =>
      have B38 : ∀ (V : Vt) (v2 : Int32) (s0 : Int32) (s1 : Int32), f_X9_fewest_38 N (f_X9_fewest_4 N n4) V v2 s0 s1 = some (r, V') → G 38 V [(0, .ref (ad 0)), (2, .int v2)] [.int s0, .int s1] := by
        intro V v2 s0 s1 h
        rw [hG]
        intro H locs ls w hl
        rw [f_X9_fewest_38] at h
        refine lv_ior hx hb dX9_fewest_38 ?_
        refine lv_topi (fun x63 ex63 => ?_)
        replace h := bdi h _ ex63
        refine lv_istore_n (lv' := [(1, .int x63), (0, .ref (ad 0)), (2, .int v2)]) hx hb dX9_fewest_39 rfl hl (by decide) rfl (fun ls hl => ?_)
        obtain ⟨x64, ex64⟩ : ∃ y : Int32, y = v2 + (1 : Int32) := ⟨_, rfl⟩
        replace h := bdi h _ ex64
        refine lv_iinc (v := x64) (lv' := [(2, .int x64), (1, .int x63), (0, .ref (ad 0))]) hx hb dX9_fewest_40 hl (k := 2) rfl (by rw [ex64]; rfl) (by decide) rfl (fun ls hl => ?_)
        refine lv_goto (tgt := 4) hx hb dX9_fewest_43 (by decide) ?_
        have g := ih4 V x63 x64 h
        rw [hG] at g
        exact g H locs ls w (lv_sub hl [2, 1, 0] rfl)
      intro V v1 v2 h
      rw [hG]
      intro H locs ls w hl
      rw [f_X9_fewest_4] at h
      refine lv_iload_n hx hb dX9_fewest_4 rfl (lv_at hl 2 rfl) ?_
      refine lv_bipush (v := 10) hx hb dX9_fewest_5 (by decide) ?_
      refine lv_icmp_ge (tgt := 46) hx hb dX9_fewest_7 (by decide) (fun c29 => ?_) (fun c29 => ?_)
      · replace h := ifT h c29
        refine lv_aload_n hx hb dX9_fewest_46 rfl (lv_at hl 0 rfl) ?_
        obtain ⟨V32, q31, h⟩ := obvi h
        refine m_cv (m_rV (As := []) (rest := []) X w hl mi_X9_laysBalance ml_X9_355 0 sm_n0 sm_k0 rfl (c_X9_laysBalance l D cy ad A Kc C0 N z V  V32 q31) ⟨⟨rfl, rfl, Nat.le_of_ble_eq_true rfl, Nat.le_of_ble_eq_true rfl⟩, Nat.le_of_ble_eq_true rfl, Nat.le_of_ble_eq_true rfl⟩ rfl rfl (Nat.le_of_ble_eq_true rfl) dX9_fewest_47) w (fun H locs w => ?_)
        refine lv_aload_n hx hb dX9_fewest_50 rfl (lv_at hl 0 rfl) ?_
        refine m_get X w 0 sm_n0 sm_k0 ci9 33 (by decide) (fvR sm_k0 rfl sm_p33) rfl fl_X9_75 dX9_fewest_51 ?_
        refine lv_iload_n hx hb dX9_fewest_54 rfl (lv_at hl 1 rfl) ?_
        obtain ⟨g33, h⟩ := cki h
        refine m_iald X w 16 sm_n16 sm_k16 sm_z16 g33 dX9_fewest_55 ?_
        refine lv_if_eq (tgt := 61) hx hb dX9_fewest_56 (by decide) (fun c34 => ?_) (fun c34 => ?_)
        · replace h := ifT h c34
          refine lv_aload_n hx hb dX9_fewest_61 rfl (lv_at hl 0 rfl) ?_
          refine m_get X w 0 sm_n0 sm_k0 ci9 34 (by decide) (fvR sm_k0 rfl sm_p34) rfl fl_X9_78 dX9_fewest_62 ?_
          refine lv_iconst (v := 0) hx hb dX9_fewest_65 (by decide) ?_
          refine lv_iconst (v := 0) hx hb dX9_fewest_66 (by decide) ?_
          obtain ⟨g35, h⟩ := cki h
          refine m_iast X w 17 sm_n17 sm_k17 sm_z17 g35 dX9_fewest_67 (fun V36 H locs eV36 w => ?_)
          replace h := bdi h _ eV36
          refine lv_iconst (v := 1) hx hb dX9_fewest_68 (by decide) ?_
          refine lv_istore_n (lv' := [(2, .int (1 : Int32)), (0, .ref (ad 0)), (1, .int v1)]) hx hb dX9_fewest_69 rfl hl (by decide) rfl (fun ls hl => ?_)
          have g := L70 N V36 v1 (1 : Int32) h
          rw [hG] at g
          exact g H locs ls w (lv_sub hl [1, 2, 0] rfl)
        · replace h := ifF h c34
          refine lv_iconst (v := (-1)) hx hb dX9_fewest_59 (by decide) ?_
          obtain ⟨rfl, rfl⟩ := reti h
          exact m_ri X w hr hlocks dX9_fewest_60
      · replace h := ifF h c29
        refine lv_aload_n hx hb dX9_fewest_10 rfl (lv_at hl 0 rfl) ?_
        refine m_get X w 0 sm_n0 sm_k0 ci9 32 (by decide) (fvR sm_k0 rfl sm_p32) rfl fl_X9_72 dX9_fewest_11 ?_
        refine lv_iload_n hx hb dX9_fewest_14 rfl (lv_at hl 2 rfl) ?_
        refine lv_aload_n hx hb dX9_fewest_15 rfl (lv_at hl 0 rfl) ?_
        refine lv_iload_n hx hb dX9_fewest_16 rfl (lv_at hl 2 rfl) ?_
        obtain ⟨r57, q58, h⟩ := ob1i h
        refine m_ci (m_rV (As := [.int v2]) (rest := [.int v2, .ref (ad 15)]) X w hl mi_X9_offBy ml_X9_132 0 sm_n0 sm_k0 rfl (c_X9_offBy l D cy ad A Kc C0 N z V v2 r57 q58) ⟨⟨rfl, rfl, Nat.le_of_ble_eq_true rfl, Nat.le_of_ble_eq_true rfl⟩, Nat.le_of_ble_eq_true rfl, Nat.le_of_ble_eq_true rfl⟩ rfl rfl (Nat.le_of_ble_eq_true rfl) dX9_fewest_17) w (fun H locs w => ?_)
        obtain ⟨g59, h⟩ := cki h
        refine m_iast X w 15 sm_n15 sm_k15 sm_z15 g59 dX9_fewest_20 (fun V60 H locs eV60 w => ?_)
        replace h := bdi h _ eV60
        refine lv_iload_n hx hb dX9_fewest_21 rfl (lv_at hl 1 rfl) ?_
        refine lv_aload_n hx hb dX9_fewest_22 rfl (lv_at hl 0 rfl) ?_
        refine m_get X w 0 sm_n0 sm_k0 ci9 32 (by decide) (fvR sm_k0 rfl sm_p32) rfl fl_X9_72 dX9_fewest_23 ?_
        refine lv_iload_n hx hb dX9_fewest_26 rfl (lv_at hl 2 rfl) ?_
        obtain ⟨g61, h⟩ := cki h
        refine m_iald X w 15 sm_n15 sm_k15 sm_z15 g61 dX9_fewest_27 ?_
        refine lv_if_ne (tgt := 35) hx hb dX9_fewest_28 (by decide) (fun c62 => ?_) (fun c62 => ?_)
        · replace h := ifF h c62
          refine lv_iconst (v := 1) hx hb dX9_fewest_35 (by decide) ?_
          refine lv_iload_n hx hb dX9_fewest_36 rfl (lv_at hl 2 rfl) ?_
          refine lv_ishl hx hb dX9_fewest_37 ?_
          have g := B38 V60 v2 ((1 : Int32) <<< (v2 &&& 31)) v1 h
          rw [hG] at g
          exact g H locs ls w (lv_sub hl [0, 2] rfl)
        · replace h := ifT h c62
          refine lv_iconst (v := 0) hx hb dX9_fewest_31 (by decide) ?_
          refine lv_goto (tgt := 38) hx hb dX9_fewest_32 (by decide) ?_
          have g := B38 V60 v2 (0 : Int32) v1 h
          rw [hG] at g
          exact g H locs ls w (lv_sub hl [0, 2] rfl)
  rw [f_X9_fewest] at h
  refine lv_iconst (v := 0) hx hb dX9_fewest_0 (by decide) ?_
  refine lv_istore_n (lv' := [(1, .int (0 : Int32)), (0, .ref (ad 0))]) hx hb dX9_fewest_1 rfl hl (by decide) rfl (fun ls hl => ?_)
  refine lv_iconst (v := 0) hx hb dX9_fewest_2 (by decide) ?_
  refine lv_istore_n (lv' := [(2, .int (0 : Int32)), (1, .int (0 : Int32)), (0, .ref (ad 0))]) hx hb dX9_fewest_3 rfl hl (by decide) rfl (fun ls hl => ?_)
  have g := L4 N V (0 : Int32) (0 : Int32) h
  rw [hG] at g
  exact g H locs ls w (lv_sub hl [2, 1, 0] rfl)
def f_X9_turned_78 (N : Nat) (K22 : Vt → Int32 → Int32 → Int32 → Int32 → Option (Int32 × Vt)) (V : Vt) (v1 : Int32) (v3 : Int32) (v4 : Int32) (s0 : Int32) (s1 : Int32) : Option (Int32 × Vt) := bd (s1 + s0) (fun x29 => bd (v4 + (1 : Int32)) (fun x30 => K22 V v1 x29 v3 x30))
def f_X9_turned_67 (N : Nat) (K22 : Vt → Int32 → Int32 → Int32 → Int32 → Option (Int32 × Vt)) (V : Vt) (v1 : Int32) (v2 : Int32) (v3 : Int32) (v4 : Int32) (v5 : Int32) : Option (Int32 × Vt) := if v5 = 0 then f_X9_turned_78 N K22 V v1 v3 v4 (0 : Int32) v2 else f_X9_turned_78 N K22 V v1 v3 v4 (1 : Int32) v2
def f_X9_turned_22 (N : Nat) (K11 : Vt → Int32 → Int32 → Int32 → Option (Int32 × Vt)) : Nat → Vt → Int32 → Int32 → Int32 → Int32 → Option (Int32 × Vt)
  | 0, _, _, _, _, _ => none
  | n + 1, V, v1, v2, v3, v4 => if (25 : Int32) ≤ v4 then bd (v3 + (1 : Int32)) (fun x18 => K11 V v1 v2 x18) else obv (f_X9_swaps N V v3 v4) (fun V21 => ob1 (f_X9_isNothingOff N V21) (fun r22 => obv (f_X9_swaps N V21 v3 v4) (fun V26 => if r22 = 0 then f_X9_turned_67 N (f_X9_turned_22 N K11 n) V26 v1 v2 v3 v4 r22 else if v2 = v1 then some (((100 : Int32) * v3) + v4, V26) else f_X9_turned_67 N (f_X9_turned_22 N K11 n) V26 v1 v2 v3 v4 r22)))
def f_X9_turned_11 (N : Nat) : Nat → Vt → Int32 → Int32 → Int32 → Option (Int32 × Vt)
  | 0, _, _, _, _ => none
  | n + 1, V, v1, v2, v3 => if (25 : Int32) ≤ v3 then if v1 = (-1 : Int32) then some (v2, V) else some ((-1 : Int32), V) else bd (v3 + (1 : Int32)) (fun x16 => f_X9_turned_22 N (f_X9_turned_11 N n) N V v1 v2 v3 x16)
def f_X9_turned (N : Nat) (V : Vt) (a1 : Int32) : Option (Int32 × Vt) := if (-1 : Int32) ≤ a1 then f_X9_turned_11 N N V a1 (0 : Int32) (0 : Int32) else some ((-1 : Int32), V)
set_option maxHeartbeats 4000000 in
set_option maxRecDepth 100000 in
theorem c_X9_turned (l : Launch) (D : va_G) (cy : Nat → ClassId) (ad : Nat → Nat) (A : Nat → Prop) (Kc : State → Prop) (C0 : Cx ad A Kc) (N : Nat) (z : Nat) (V : Vt) (a1 : Int32) (r : Int32) (V' : Vt) (h : f_X9_turned N V a1 = some (r, V')) : Met l yX9_turned (mw yX9_turned cX9_turned 6 (some .int)) { frames := 2, cells := 0, slots := 0, locals := 46 } (PreM D cy ad Kc (SM z) V [.ref (ad 0), .int a1]) (QI D cy ad A r (SM z) V') 0 0 A := by
  refine ct_go C0 (own := RX9) rfl (by decide) rfl ?_
  intro p e s m below meth c ls H locs X hr hlocks hnm hl w
  have hx := X.1.1
  have hb := X.1.2.1
  have hown := X.2.1
  have hts := X.2.2.1
  have hl : lv_has ls 6 [(0, .ref (ad 0)), (1, .int a1)] := hl
  obtain ⟨G, hG⟩ : ∃ G : Nat → Vt → List (Nat × Value) → List Value → Prop, G = fun pc V lv st => ∀ (H : Heap) (locs : List Loc) (ls : Array Slot), Wd D cy ad A s.heap (SM z) V H locs → lv_has ls 6 lv → W p l e { frames := 2, cells := 0, slots := 0, locals := 46 } s m ([.ref (ad 0), .int a1] : List Value).toArray below meth c H locs 0 0 (MQ below (QI D cy ad A r (SM z) V') ([.ref (ad 0), .int a1] : List Value).toArray s 0 0 A) (F0 m pc ls st) := ⟨_, rfl⟩
  have L11 : ∀ (n11 : Nat) (V : Vt) (v1 : Int32) (v2 : Int32) (v3 : Int32), f_X9_turned_11 N n11 V v1 v2 v3 = some (r, V') → G 11 V [(0, .ref (ad 0)), (1, .int v1), (2, .int v2), (3, .int v3)] [] := by
    intro n11
    induction n11 with
    | zero => intro V v1 v2 v3 h; rw [f_X9_turned_11] at h; cases h
    | succ n11 ih11 =>
      have L22 : ∀ (n22 : Nat) (V : Vt) (v1 : Int32) (v2 : Int32) (v3 : Int32) (v4 : Int32), f_X9_turned_22 N (f_X9_turned_11 N n11) n22 V v1 v2 v3 v4 = some (r, V') → G 22 V [(0, .ref (ad 0)), (1, .int v1), (2, .int v2), (3, .int v3), (4, .int v4)] [] := by
        intro n22
        induction n22 with
        | zero => intro V v1 v2 v3 v4 h; rw [f_X9_turned_22] at h; cases h
        | succ n22 ih22 =>
          have B78 : ∀ (V : Vt) (v1 : Int32) (v3 : Int32) (v4 : Int32) (s0 : Int32) (s1 : Int32), f_X9_turned_78 N (f_X9_turned_22 N (f_X9_turned_11 N n11) n22) V v1 v3 v4 s0 s1 = some (r, V') → G 78 V [(0, .ref (ad 0)), (1, .int v1), (3, .int v3), (4, .int v4)] [.int s0, .int s1] := by
            intro V v1 v3 v4 s0 s1 h
            rw [hG]
            intro H locs ls w hl
            rw [f_X9_turned_78] at h
            refine lv_iadd hx hb dX9_turned_78 ?_
            refine lv_topi (fun x29 ex29 => ?_)
            replace h := bdi h _ ex29
            refine lv_istore_n (lv' := [(2, .int x29), (0, .ref (ad 0)), (1, .int v1), (3, .int v3), (4, .int v4)]) hx hb dX9_turned_79 rfl hl (by decide) rfl (fun ls hl => ?_)
            obtain ⟨x30, ex30⟩ : ∃ y : Int32, y = v4 + (1 : Int32) := ⟨_, rfl⟩
            replace h := bdi h _ ex30
            refine lv_iinc (v := x30) (lv' := [(4, .int x30), (2, .int x29), (0, .ref (ad 0)), (1, .int v1), (3, .int v3)]) hx hb dX9_turned_80 hl (k := 4) rfl (by rw [ex30]; rfl) (by decide) rfl (fun ls hl => ?_)
            refine lv_goto (tgt := 22) hx hb dX9_turned_83 (by decide) ?_
            have g := ih22 V v1 x29 v3 x30 h
            rw [hG] at g
            exact g H locs ls w (lv_sub hl [2, 3, 1, 4, 0] rfl)
          have B67 : ∀ (V : Vt) (v1 : Int32) (v2 : Int32) (v3 : Int32) (v4 : Int32) (v5 : Int32), f_X9_turned_67 N (f_X9_turned_22 N (f_X9_turned_11 N n11) n22) V v1 v2 v3 v4 v5 = some (r, V') → G 67 V [(0, .ref (ad 0)), (1, .int v1), (2, .int v2), (3, .int v3), (4, .int v4), (5, .int v5)] [] := by
            intro V v1 v2 v3 v4 v5 h
            rw [hG]
            intro H locs ls w hl
            rw [f_X9_turned_67] at h
            refine lv_iload_n hx hb dX9_turned_67 rfl (lv_at hl 2 rfl) ?_
            refine lv_iload hx hb dX9_turned_68 (lv_at hl 5 rfl) ?_
            refine lv_if_eq (tgt := 77) hx hb dX9_turned_70 (by decide) (fun c28 => ?_) (fun c28 => ?_)
            · replace h := ifT h c28
              refine lv_iconst (v := 0) hx hb dX9_turned_77 (by decide) ?_
              have g := B78 V v1 v3 v4 (0 : Int32) v2 h
              rw [hG] at g
              exact g H locs ls w (lv_sub hl [0, 1, 3, 4] rfl)
            · replace h := ifF h c28
              refine lv_iconst (v := 1) hx hb dX9_turned_73 (by decide) ?_
              refine lv_goto (tgt := 78) hx hb dX9_turned_74 (by decide) ?_
              have g := B78 V v1 v3 v4 (1 : Int32) v2 h
              rw [hG] at g
              exact g H locs ls w (lv_sub hl [0, 1, 3, 4] rfl)
          intro V v1 v2 v3 v4 h
          rw [hG]
          intro H locs ls w hl
          rw [f_X9_turned_22] at h
          refine lv_iload hx hb dX9_turned_22 (lv_at hl 4 rfl) ?_
          refine lv_bipush (v := 25) hx hb dX9_turned_24 (by decide) ?_
          refine lv_icmp_ge (tgt := 86) hx hb dX9_turned_26 (by decide) (fun c17 => ?_) (fun c17 => ?_)
          · replace h := ifT h c17
            obtain ⟨x18, ex18⟩ : ∃ y : Int32, y = v3 + (1 : Int32) := ⟨_, rfl⟩
            replace h := bdi h _ ex18
            refine lv_iinc (v := x18) (lv' := [(3, .int x18), (0, .ref (ad 0)), (1, .int v1), (2, .int v2), (4, .int v4)]) hx hb dX9_turned_86 hl (k := 3) rfl (by rw [ex18]; rfl) (by decide) rfl (fun ls hl => ?_)
            refine lv_goto (tgt := 11) hx hb dX9_turned_89 (by decide) ?_
            have g := ih11 V v1 v2 x18 h
            rw [hG] at g
            exact g H locs ls w (lv_sub hl [1, 2, 3, 0] rfl)
          · replace h := ifF h c17
            refine lv_aload_n hx hb dX9_turned_29 rfl (lv_at hl 0 rfl) ?_
            refine lv_iload_n hx hb dX9_turned_30 rfl (lv_at hl 3 rfl) ?_
            refine lv_iload hx hb dX9_turned_31 (lv_at hl 4 rfl) ?_
            obtain ⟨V21, q20, h⟩ := obvi h
            refine m_cv (m_rV (As := [.int v3, .int v4]) (rest := []) X w hl mi_X9_swaps ml_X9_361 0 sm_n0 sm_k0 rfl (c_X9_swaps l D cy ad A Kc C0 N z V v3 v4 V21 q20) ⟨⟨rfl, rfl, Nat.le_of_ble_eq_true rfl, Nat.le_of_ble_eq_true rfl⟩, Nat.le_of_ble_eq_true rfl, Nat.le_of_ble_eq_true rfl⟩ rfl rfl (Nat.le_of_ble_eq_true rfl) dX9_turned_33) w (fun H locs w => ?_)
            refine lv_aload_n hx hb dX9_turned_36 rfl (lv_at hl 0 rfl) ?_
            obtain ⟨r22, q23, h⟩ := ob1i h
            refine m_ci (m_rV (As := []) (rest := []) X w hl mi_X9_isNothingOff ml_X9_364 0 sm_n0 sm_k0 rfl (c_X9_isNothingOff l D cy ad A Kc C0 N z V21  r22 q23) ⟨⟨rfl, rfl, Nat.le_of_ble_eq_true rfl, Nat.le_of_ble_eq_true rfl⟩, Nat.le_of_ble_eq_true rfl, Nat.le_of_ble_eq_true rfl⟩ rfl rfl (Nat.le_of_ble_eq_true rfl) dX9_turned_37) w (fun H locs w => ?_)
            refine lv_istore (lv' := [(5, .int r22), (0, .ref (ad 0)), (1, .int v1), (2, .int v2), (3, .int v3), (4, .int v4)]) hx hb dX9_turned_40 hl (by decide) rfl (fun ls hl => ?_)
            refine lv_aload_n hx hb dX9_turned_42 rfl (lv_at hl 1 rfl) ?_
            refine lv_iload_n hx hb dX9_turned_43 rfl (lv_at hl 4 rfl) ?_
            refine lv_iload hx hb dX9_turned_44 (lv_at hl 5 rfl) ?_
            obtain ⟨V26, q25, h⟩ := obvi h
            refine m_cv (m_rV (As := [.int v3, .int v4]) (rest := []) X w hl mi_X9_swaps ml_X9_361 0 sm_n0 sm_k0 rfl (c_X9_swaps l D cy ad A Kc C0 N z V21 v3 v4 V26 q25) ⟨⟨rfl, rfl, Nat.le_of_ble_eq_true rfl, Nat.le_of_ble_eq_true rfl⟩, Nat.le_of_ble_eq_true rfl, Nat.le_of_ble_eq_true rfl⟩ rfl rfl (Nat.le_of_ble_eq_true rfl) dX9_turned_46) w (fun H locs w => ?_)
            refine lv_iload hx hb dX9_turned_49 (lv_at hl 0 rfl) ?_
            refine lv_if_eq (tgt := 67) hx hb dX9_turned_51 (by decide) (fun c27 => ?_) (fun c27 => ?_)
            · replace h := ifT h c27
              have g := B67 V26 v1 v2 v3 v4 r22 h
              rw [hG] at g
              exact g H locs ls w (lv_sub hl [1, 2, 3, 4, 5, 0] rfl)
            · replace h := ifF h c27
              refine lv_iload_n hx hb dX9_turned_54 rfl (lv_at hl 3 rfl) ?_
              refine lv_iload_n hx hb dX9_turned_55 rfl (lv_at hl 2 rfl) ?_
              refine lv_icmp_ne (tgt := 67) hx hb dX9_turned_56 (by decide) (fun c31 => ?_) (fun c31 => ?_)
              · replace h := ifF h c31
                have g := B67 V26 v1 v2 v3 v4 r22 h
                rw [hG] at g
                exact g H locs ls w (lv_sub hl [1, 2, 3, 4, 5, 0] rfl)
              · replace h := ifT h c31
                refine lv_bipush (v := 100) hx hb dX9_turned_59 (by decide) ?_
                refine lv_iload_n hx hb dX9_turned_61 rfl (lv_at hl 4 rfl) ?_
                refine lv_imul hx hb dX9_turned_62 ?_
                refine lv_iload hx hb dX9_turned_63 (lv_at hl 5 rfl) ?_
                refine lv_iadd hx hb dX9_turned_65 ?_
                obtain ⟨rfl, rfl⟩ := reti h
                exact m_ri X w hr hlocks dX9_turned_66
      intro V v1 v2 v3 h
      rw [hG]
      intro H locs ls w hl
      rw [f_X9_turned_11] at h
      refine lv_iload_n hx hb dX9_turned_11 rfl (lv_at hl 3 rfl) ?_
      refine lv_bipush (v := 25) hx hb dX9_turned_12 (by decide) ?_
      refine lv_icmp_ge (tgt := 92) hx hb dX9_turned_14 (by decide) (fun c14 => ?_) (fun c14 => ?_)
      · replace h := ifT h c14
        refine lv_iload_n hx hb dX9_turned_92 rfl (lv_at hl 1 rfl) ?_
        refine lv_iconst (v := (-1)) hx hb dX9_turned_93 (by decide) ?_
        refine lv_icmp_ne (tgt := 101) hx hb dX9_turned_94 (by decide) (fun c15 => ?_) (fun c15 => ?_)
        · replace h := ifF h c15
          refine lv_iconst (v := (-1)) hx hb dX9_turned_101 (by decide) ?_
          obtain ⟨rfl, rfl⟩ := reti h
          exact m_ri X w hr hlocks dX9_turned_102
        · replace h := ifT h c15
          refine lv_iload_n hx hb dX9_turned_97 rfl (lv_at hl 2 rfl) ?_
          refine lv_goto (tgt := 102) hx hb dX9_turned_98 (by decide) ?_
          obtain ⟨rfl, rfl⟩ := reti h
          exact m_ri X w hr hlocks dX9_turned_102
      · replace h := ifF h c14
        refine lv_iload_n hx hb dX9_turned_17 rfl (lv_at hl 3 rfl) ?_
        refine lv_iconst (v := 1) hx hb dX9_turned_18 (by decide) ?_
        refine lv_iadd hx hb dX9_turned_19 ?_
        refine lv_topi (fun x16 ex16 => ?_)
        replace h := bdi h _ ex16
        refine lv_istore (lv' := [(4, .int x16), (0, .ref (ad 0)), (1, .int v1), (2, .int v2), (3, .int v3)]) hx hb dX9_turned_20 hl (by decide) rfl (fun ls hl => ?_)
        have g := L22 N V v1 v2 v3 x16 h
        rw [hG] at g
        exact g H locs ls w (lv_sub hl [1, 2, 3, 4, 0] rfl)
  rw [f_X9_turned] at h
  refine lv_iload_n hx hb dX9_turned_0 rfl (lv_at hl 1 rfl) ?_
  refine lv_iconst (v := (-1)) hx hb dX9_turned_1 (by decide) ?_
  refine lv_icmp_ge (tgt := 7) hx hb dX9_turned_2 (by decide) (fun c13 => ?_) (fun c13 => ?_)
  · replace h := ifT h c13
    refine lv_iconst (v := 0) hx hb dX9_turned_7 (by decide) ?_
    refine lv_istore_n (lv' := [(2, .int (0 : Int32)), (0, .ref (ad 0)), (1, .int a1)]) hx hb dX9_turned_8 rfl hl (by decide) rfl (fun ls hl => ?_)
    refine lv_iconst (v := 0) hx hb dX9_turned_9 (by decide) ?_
    refine lv_istore_n (lv' := [(3, .int (0 : Int32)), (2, .int (0 : Int32)), (0, .ref (ad 0)), (1, .int a1)]) hx hb dX9_turned_10 rfl hl (by decide) rfl (fun ls hl => ?_)
    have g := L11 N V a1 (0 : Int32) (0 : Int32) h
    rw [hG] at g
    exact g H locs ls w (lv_sub hl [2, 3, 1, 0] rfl)
  · replace h := ifF h c13
    refine lv_iconst (v := (-1)) hx hb dX9_turned_5 (by decide) ?_
    obtain ⟨rfl, rfl⟩ := reti h
    exact m_ri X w hr hlocks dX9_turned_6
def f_X9_beside_46 (N : Nat) (v3 : Int32) (s0 : Int32) (s1 : Int32) : Option Int32 := bd (s1 + s0) (fun x12 => ob1 (f_X9_isFive N v3) (fun r13 => if r13 = 0 then some (25 : Int32) else ob1 (f_X9_isFive N x12) (fun r16 => if r16 = 0 then some (25 : Int32) else some (((5 : Int32) * v3) + x12))))
def f_X9_beside_22 (N : Nat) (v1 : Int32) (v2 : Int32) (s0 : Int32) (s1 : Int32) : Option Int32 := bd (s1 + s0) (fun x9 => if v2 = (2 : Int32) then f_X9_beside_46 N x9 (1 : Int32) (v1 - v1 / (5 : Int32) * (5 : Int32)) else if v2 = (4 : Int32) then f_X9_beside_46 N x9 (-1 : Int32) (v1 - v1 / (5 : Int32) * (5 : Int32)) else f_X9_beside_46 N x9 (0 : Int32) (v1 - v1 / (5 : Int32) * (5 : Int32)))
def f_X9_beside (N : Nat) (a1 : Int32) (a2 : Int32) : Option Int32 := if a2 = (1 : Int32) then f_X9_beside_22 N a1 a2 (1 : Int32) (a1 / (5 : Int32)) else if a2 = (3 : Int32) then f_X9_beside_22 N a1 a2 (-1 : Int32) (a1 / (5 : Int32)) else f_X9_beside_22 N a1 a2 (0 : Int32) (a1 / (5 : Int32))
set_option maxHeartbeats 4000000 in
set_option maxRecDepth 100000 in
theorem c_X9_beside (l : Launch) (D : va_G) (cy : Nat → ClassId) (ad : Nat → Nat) (A : Nat → Prop) (Kc : State → Prop) (C0 : Cx ad A Kc) (N : Nat) (z : Nat) (V : Vt) (a1 : Int32) (a2 : Int32) (r : Int32) (h : f_X9_beside N a1 a2 = some r) : Met l yX9_beside (mw yX9_beside cX9_beside 5 (some .int)) { frames := 2, cells := 0, slots := 0, locals := 42 } (PreM D cy ad Kc (SM z) V [.ref (ad 0), .int a1, .int a2]) (QI D cy ad A r (SM z) V) 0 0 A := by
  refine ct_go C0 (own := RX9) rfl (by decide) rfl ?_
  intro p e s m below meth c ls H locs X hr hlocks hnm hl w
  have hx := X.1.1
  have hb := X.1.2.1
  have hown := X.2.1
  have hts := X.2.2.1
  have hl : lv_has ls 5 [(0, .ref (ad 0)), (1, .int a1), (2, .int a2)] := hl
  obtain ⟨G, hG⟩ : ∃ G : Nat → Vt → List (Nat × Value) → List Value → Prop, G = fun pc V lv st => ∀ (H : Heap) (locs : List Loc) (ls : Array Slot), Wd D cy ad A s.heap (SM z) V H locs → lv_has ls 5 lv → W p l e { frames := 2, cells := 0, slots := 0, locals := 42 } s m ([.ref (ad 0), .int a1, .int a2] : List Value).toArray below meth c H locs 0 0 (MQ below (QI D cy ad A r (SM z) V) ([.ref (ad 0), .int a1, .int a2] : List Value).toArray s 0 0 A) (F0 m pc ls st) := ⟨_, rfl⟩
  have B46 : ∀ (v3 : Int32) (s0 : Int32) (s1 : Int32), f_X9_beside_46 N v3 s0 s1 = some r → G 46 V [(3, .int v3)] [.int s0, .int s1] := by
    intro v3 s0 s1 h
    rw [hG]
    intro H locs ls w hl
    rw [f_X9_beside_46] at h
    refine lv_iadd hx hb dX9_beside_46 ?_
    refine lv_topi (fun x12 ex12 => ?_)
    replace h := bdi h _ ex12
    refine lv_istore (lv' := [(4, .int x12), (3, .int v3)]) hx hb dX9_beside_47 hl (by decide) rfl (fun ls hl => ?_)
    refine lv_iload_n hx hb dX9_beside_49 rfl (lv_at hl 1 rfl) ?_
    obtain ⟨r13, q14, h⟩ := ob1i h
    refine m_ci (m_rS (As := [.int v3]) (rest := []) X w hl mi_X9_isFive ml_X9_129 (c_X9_isFive l D cy ad A Kc C0 N z V v3 r13 q14) ⟨⟨rfl, rfl, Nat.le_of_ble_eq_true rfl, Nat.le_of_ble_eq_true rfl⟩, Nat.le_of_ble_eq_true rfl, Nat.le_of_ble_eq_true rfl⟩ rfl rfl (Nat.le_of_ble_eq_true rfl) dX9_beside_50) w (fun H locs w => ?_)
    refine lv_if_eq (tgt := 73) hx hb dX9_beside_53 (by decide) (fun c15 => ?_) (fun c15 => ?_)
    · replace h := ifT h c15
      refine lv_bipush (v := 25) hx hb dX9_beside_73 (by decide) ?_
      obtain rfl := Option.some.inj h
      exact m_ri X w hr hlocks dX9_beside_75
    · replace h := ifF h c15
      refine lv_iload hx hb dX9_beside_56 (lv_at hl 0 rfl) ?_
      obtain ⟨r16, q17, h⟩ := ob1i h
      refine m_ci (m_rS (As := [.int x12]) (rest := []) X w hl mi_X9_isFive ml_X9_129 (c_X9_isFive l D cy ad A Kc C0 N z V x12 r16 q17) ⟨⟨rfl, rfl, Nat.le_of_ble_eq_true rfl, Nat.le_of_ble_eq_true rfl⟩, Nat.le_of_ble_eq_true rfl, Nat.le_of_ble_eq_true rfl⟩ rfl rfl (Nat.le_of_ble_eq_true rfl) dX9_beside_58) w (fun H locs w => ?_)
      refine lv_if_eq (tgt := 73) hx hb dX9_beside_61 (by decide) (fun c18 => ?_) (fun c18 => ?_)
      · replace h := ifT h c18
        refine lv_bipush (v := 25) hx hb dX9_beside_73 (by decide) ?_
        obtain rfl := Option.some.inj h
        exact m_ri X w hr hlocks dX9_beside_75
      · replace h := ifF h c18
        refine lv_iconst (v := 5) hx hb dX9_beside_64 (by decide) ?_
        refine lv_iload_n hx hb dX9_beside_65 rfl (lv_at hl 1 rfl) ?_
        refine lv_imul hx hb dX9_beside_66 ?_
        refine lv_iload hx hb dX9_beside_67 (lv_at hl 0 rfl) ?_
        refine lv_iadd hx hb dX9_beside_69 ?_
        refine lv_goto (tgt := 75) hx hb dX9_beside_70 (by decide) ?_
        obtain rfl := Option.some.inj h
        exact m_ri X w hr hlocks dX9_beside_75
  have B22 : ∀ (v1 : Int32) (v2 : Int32) (s0 : Int32) (s1 : Int32), f_X9_beside_22 N v1 v2 s0 s1 = some r → G 22 V [(1, .int v1), (2, .int v2)] [.int s0, .int s1] := by
    intro v1 v2 s0 s1 h
    rw [hG]
    intro H locs ls w hl
    rw [f_X9_beside_22] at h
    refine lv_iadd hx hb dX9_beside_22 ?_
    refine lv_topi (fun x9 ex9 => ?_)
    replace h := bdi h _ ex9
    refine lv_istore_n (lv' := [(3, .int x9), (1, .int v1), (2, .int v2)]) hx hb dX9_beside_23 rfl hl (by decide) rfl (fun ls hl => ?_)
    refine lv_iload_n hx hb dX9_beside_24 rfl (lv_at hl 1 rfl) ?_
    refine lv_iconst (v := 5) hx hb dX9_beside_25 (by decide) ?_
    refine lv_irem hx hb dX9_beside_26 (by decide) ?_
    refine lv_iload_n hx hb dX9_beside_27 rfl (lv_at hl 2 rfl) ?_
    refine lv_iconst (v := 2) hx hb dX9_beside_28 (by decide) ?_
    refine lv_icmp_ne (tgt := 36) hx hb dX9_beside_29 (by decide) (fun c10 => ?_) (fun c10 => ?_)
    · replace h := ifF h c10
      refine lv_iload_n hx hb dX9_beside_36 rfl (lv_at hl 2 rfl) ?_
      refine lv_iconst (v := 4) hx hb dX9_beside_37 (by decide) ?_
      refine lv_icmp_ne (tgt := 45) hx hb dX9_beside_38 (by decide) (fun c11 => ?_) (fun c11 => ?_)
      · replace h := ifF h c11
        refine lv_iconst (v := 0) hx hb dX9_beside_45 (by decide) ?_
        have g := B46 x9 (0 : Int32) (v1 - v1 / (5 : Int32) * (5 : Int32)) h
        rw [hG] at g
        exact g H locs ls w (lv_sub hl [0] rfl)
      · replace h := ifT h c11
        refine lv_iconst (v := (-1)) hx hb dX9_beside_41 (by decide) ?_
        refine lv_goto (tgt := 46) hx hb dX9_beside_42 (by decide) ?_
        have g := B46 x9 (-1 : Int32) (v1 - v1 / (5 : Int32) * (5 : Int32)) h
        rw [hG] at g
        exact g H locs ls w (lv_sub hl [0] rfl)
    · replace h := ifT h c10
      refine lv_iconst (v := 1) hx hb dX9_beside_32 (by decide) ?_
      refine lv_goto (tgt := 46) hx hb dX9_beside_33 (by decide) ?_
      have g := B46 x9 (1 : Int32) (v1 - v1 / (5 : Int32) * (5 : Int32)) h
      rw [hG] at g
      exact g H locs ls w (lv_sub hl [0] rfl)
  rw [f_X9_beside] at h
  refine lv_iload_n hx hb dX9_beside_0 rfl (lv_at hl 1 rfl) ?_
  refine lv_iconst (v := 5) hx hb dX9_beside_1 (by decide) ?_
  refine lv_idiv hx hb dX9_beside_2 (by decide) ?_
  refine lv_iload_n hx hb dX9_beside_3 rfl (lv_at hl 2 rfl) ?_
  refine lv_iconst (v := 1) hx hb dX9_beside_4 (by decide) ?_
  refine lv_icmp_ne (tgt := 12) hx hb dX9_beside_5 (by decide) (fun c7 => ?_) (fun c7 => ?_)
  · replace h := ifF h c7
    refine lv_iload_n hx hb dX9_beside_12 rfl (lv_at hl 2 rfl) ?_
    refine lv_iconst (v := 3) hx hb dX9_beside_13 (by decide) ?_
    refine lv_icmp_ne (tgt := 21) hx hb dX9_beside_14 (by decide) (fun c8 => ?_) (fun c8 => ?_)
    · replace h := ifF h c8
      refine lv_iconst (v := 0) hx hb dX9_beside_21 (by decide) ?_
      have g := B22 a1 a2 (0 : Int32) (a1 / (5 : Int32)) h
      rw [hG] at g
      exact g H locs ls w (lv_sub hl [1, 2] rfl)
    · replace h := ifT h c8
      refine lv_iconst (v := (-1)) hx hb dX9_beside_17 (by decide) ?_
      refine lv_goto (tgt := 22) hx hb dX9_beside_18 (by decide) ?_
      have g := B22 a1 a2 (-1 : Int32) (a1 / (5 : Int32)) h
      rw [hG] at g
      exact g H locs ls w (lv_sub hl [1, 2] rfl)
  · replace h := ifT h c7
    refine lv_iconst (v := 1) hx hb dX9_beside_8 (by decide) ?_
    refine lv_goto (tgt := 22) hx hb dX9_beside_9 (by decide) ?_
    have g := B22 a1 a2 (1 : Int32) (a1 / (5 : Int32)) h
    rw [hG] at g
    exact g H locs ls w (lv_sub hl [1, 2] rfl)
def f_X9_isCast_117 (N : Nat) (V : Vt) (K73 : Int32 → Int32 → Option Int32) (v3 : Int32) (v4 : Int32) : Option Int32 := bd (v4 + (1 : Int32)) (fun x27 => K73 v3 x27)
def f_X9_isCast_73 (N : Nat) (V : Vt) : Nat → Int32 → Int32 → Option Int32
  | 0, _, _ => none
  | n + 1, v3, v4 => if (25 : Int32) ≤ v4 then some (1 : Int32) else ob1 (f_X9_isIn N v3 v4) (fun r24 => if r24 = 0 then ck v4 26 (if (V.2.1 18 v4.toNatClampNeg) = (25 : Int32) then f_X9_isCast_117 N V (f_X9_isCast_73 N V n) v3 v4 else ck v4 26 (ob1 (f_X9_isIn N v3 (V.2.1 18 v4.toNatClampNeg)) (fun r31 => if r31 = 0 then f_X9_isCast_117 N V (f_X9_isCast_73 N V n) v3 v4 else some (0 : Int32)))) else f_X9_isCast_117 N V (f_X9_isCast_73 N V n) v3 v4)
def f_X9_isCast_28 (N : Nat) (V : Vt) (K4 : Int32 → Int32 → Int32 → Option Int32) (v1 : Int32) (v3 : Int32) (s0 : Int32) (s1 : Int32) : Option Int32 := bd (s1 ||| s0) (fun x36 => bd (v3 + (1 : Int32)) (fun x37 => K4 v1 x36 x37))
def f_X9_isCast_4 (N : Nat) (V : Vt) : Nat → Int32 → Int32 → Int32 → Option Int32
  | 0, _, _, _ => none
  | n + 1, v1, v2, v3 => if (25 : Int32) ≤ v3 then if v2 = 0 then some (1 : Int32) else ob1 (f_X9_isOnRing N V v1) (fun r17 => if r17 = 0 then some (0 : Int32) else ob1 (f_X9_ringSet N V v1) (fun r20 => if (r20 &&& (-r20)) = ((1 : Int32) <<< (v1 &&& 31)) then f_X9_isCast_73 N V N r20 (0 : Int32) else some (0 : Int32))) else ck v3 26 (if (V.2.1 18 v3.toNatClampNeg) = v1 then f_X9_isCast_28 N V (f_X9_isCast_4 N V n) v1 v3 ((1 : Int32) <<< (v3 &&& 31)) v2 else f_X9_isCast_28 N V (f_X9_isCast_4 N V n) v1 v3 (0 : Int32) v2)
def f_X9_isCast (N : Nat) (V : Vt) (a1 : Int32) : Option Int32 := f_X9_isCast_4 N V N a1 (0 : Int32) (0 : Int32)
set_option maxHeartbeats 4000000 in
set_option maxRecDepth 100000 in
theorem c_X9_isCast (l : Launch) (D : va_G) (cy : Nat → ClassId) (ad : Nat → Nat) (A : Nat → Prop) (Kc : State → Prop) (C0 : Cx ad A Kc) (N : Nat) (z : Nat) (V : Vt) (a1 : Int32) (r : Int32) (h : f_X9_isCast N V a1 = some r) : Met l yX9_isCast (mw yX9_isCast cX9_isCast 5 (some .boolean)) { frames := 2, cells := 0, slots := 0, locals := 44 } (PreM D cy ad Kc (SM z) V [.ref (ad 0), .int a1]) (QI D cy ad A r (SM z) V) 0 0 A := by
  refine ct_go C0 (own := RX9) rfl (by decide) rfl ?_
  intro p e s m below meth c ls H locs X hr hlocks hnm hl w
  have hx := X.1.1
  have hb := X.1.2.1
  have hown := X.2.1
  have hts := X.2.2.1
  have hl : lv_has ls 5 [(0, .ref (ad 0)), (1, .int a1)] := hl
  obtain ⟨G, hG⟩ : ∃ G : Nat → Vt → List (Nat × Value) → List Value → Prop, G = fun pc V lv st => ∀ (H : Heap) (locs : List Loc) (ls : Array Slot), Wd D cy ad A s.heap (SM z) V H locs → lv_has ls 5 lv → W p l e { frames := 2, cells := 0, slots := 0, locals := 44 } s m ([.ref (ad 0), .int a1] : List Value).toArray below meth c H locs 0 0 (MQ below (QI D cy ad A r (SM z) V) ([.ref (ad 0), .int a1] : List Value).toArray s 0 0 A) (F0 m pc ls st) := ⟨_, rfl⟩
  have L73 : ∀ (n73 : Nat) (v3 : Int32) (v4 : Int32), f_X9_isCast_73 N V n73 v3 v4 = some r → G 73 V [(0, .ref (ad 0)), (3, .int v3), (4, .int v4)] [] := by
    intro n73
    induction n73 with
    | zero => intro v3 v4 h; rw [f_X9_isCast_73] at h; cases h
    | succ n73 ih73 =>
      have B117 : ∀ (v3 : Int32) (v4 : Int32), f_X9_isCast_117 N V (f_X9_isCast_73 N V n73) v3 v4 = some r → G 117 V [(0, .ref (ad 0)), (3, .int v3), (4, .int v4)] [] := by
        intro v3 v4 h
        rw [hG]
        intro H locs ls w hl
        rw [f_X9_isCast_117] at h
        obtain ⟨x27, ex27⟩ : ∃ y : Int32, y = v4 + (1 : Int32) := ⟨_, rfl⟩
        replace h := bdi h _ ex27
        refine lv_iinc (v := x27) (lv' := [(4, .int x27), (0, .ref (ad 0)), (3, .int v3)]) hx hb dX9_isCast_117 hl (k := 2) rfl (by rw [ex27]; rfl) (by decide) rfl (fun ls hl => ?_)
        refine lv_goto (tgt := 73) hx hb dX9_isCast_120 (by decide) ?_
        have g := ih73 v3 x27 h
        rw [hG] at g
        exact g H locs ls w (lv_sub hl [1, 2, 0] rfl)
      intro v3 v4 h
      rw [hG]
      intro H locs ls w hl
      rw [f_X9_isCast_73] at h
      refine lv_iload hx hb dX9_isCast_73 (lv_at hl 2 rfl) ?_
      refine lv_bipush (v := 25) hx hb dX9_isCast_75 (by decide) ?_
      refine lv_icmp_ge (tgt := 123) hx hb dX9_isCast_77 (by decide) (fun c23 => ?_) (fun c23 => ?_)
      · replace h := ifT h c23
        refine lv_iconst (v := 1) hx hb dX9_isCast_123 (by decide) ?_
        obtain rfl := Option.some.inj h
        exact m_rz X w hr rfl hlocks dX9_isCast_124
      · replace h := ifF h c23
        refine lv_iload_n hx hb dX9_isCast_80 rfl (lv_at hl 1 rfl) ?_
        refine lv_iload hx hb dX9_isCast_81 (lv_at hl 2 rfl) ?_
        obtain ⟨r24, q25, h⟩ := ob1i h
        refine m_ci (m_rS (As := [.int v3, .int v4]) (rest := []) X w hl mi_X9_isIn ml_X9_119 (c_X9_isIn l D cy ad A Kc C0 N z V v3 v4 r24 q25) ⟨⟨rfl, rfl, Nat.le_of_ble_eq_true rfl, Nat.le_of_ble_eq_true rfl⟩, Nat.le_of_ble_eq_true rfl, Nat.le_of_ble_eq_true rfl⟩ rfl rfl (Nat.le_of_ble_eq_true rfl) dX9_isCast_83) w (fun H locs w => ?_)
        refine lv_if_ne (tgt := 117) hx hb dX9_isCast_86 (by decide) (fun c26 => ?_) (fun c26 => ?_)
        · replace h := ifF h c26
          have g := B117 v3 v4 h
          rw [hG] at g
          exact g H locs ls w (lv_sub hl [0, 1, 2] rfl)
        · replace h := ifT h c26
          refine lv_aload_n hx hb dX9_isCast_89 rfl (lv_at hl 0 rfl) ?_
          refine m_get X w 0 sm_n0 sm_k0 ci9 35 (by decide) (fvR sm_k0 rfl sm_p35) rfl fl_X9_81 dX9_isCast_90 ?_
          refine lv_iload hx hb dX9_isCast_93 (lv_at hl 2 rfl) ?_
          obtain ⟨g28, h⟩ := cki h
          refine m_iald X w 18 sm_n18 sm_k18 sm_z18 g28 dX9_isCast_95 ?_
          refine lv_bipush (v := 25) hx hb dX9_isCast_96 (by decide) ?_
          refine lv_icmp_eq (tgt := 117) hx hb dX9_isCast_98 (by decide) (fun c29 => ?_) (fun c29 => ?_)
          · replace h := ifT h c29
            have g := B117 v3 v4 h
            rw [hG] at g
            exact g H locs ls w (lv_sub hl [0, 1, 2] rfl)
          · replace h := ifF h c29
            refine lv_iload_n hx hb dX9_isCast_101 rfl (lv_at hl 1 rfl) ?_
            refine lv_aload_n hx hb dX9_isCast_102 rfl (lv_at hl 0 rfl) ?_
            refine m_get X w 0 sm_n0 sm_k0 ci9 35 (by decide) (fvR sm_k0 rfl sm_p35) rfl fl_X9_81 dX9_isCast_103 ?_
            refine lv_iload hx hb dX9_isCast_106 (lv_at hl 2 rfl) ?_
            obtain ⟨g30, h⟩ := cki h
            refine m_iald X w 18 sm_n18 sm_k18 sm_z18 g30 dX9_isCast_108 ?_
            obtain ⟨r31, q32, h⟩ := ob1i h
            refine m_ci (m_rS (As := [.int v3, .int (V.2.1 18 v4.toNatClampNeg)]) (rest := []) X w hl mi_X9_isIn ml_X9_119 (c_X9_isIn l D cy ad A Kc C0 N z V v3 (V.2.1 18 v4.toNatClampNeg) r31 q32) ⟨⟨rfl, rfl, Nat.le_of_ble_eq_true rfl, Nat.le_of_ble_eq_true rfl⟩, Nat.le_of_ble_eq_true rfl, Nat.le_of_ble_eq_true rfl⟩ rfl rfl (Nat.le_of_ble_eq_true rfl) dX9_isCast_109) w (fun H locs w => ?_)
            refine lv_if_eq (tgt := 117) hx hb dX9_isCast_112 (by decide) (fun c33 => ?_) (fun c33 => ?_)
            · replace h := ifT h c33
              have g := B117 v3 v4 h
              rw [hG] at g
              exact g H locs ls w (lv_sub hl [0, 1, 2] rfl)
            · replace h := ifF h c33
              refine lv_iconst (v := 0) hx hb dX9_isCast_115 (by decide) ?_
              obtain rfl := Option.some.inj h
              exact m_rz X w hr rfl hlocks dX9_isCast_116
  have L4 : ∀ (n4 : Nat) (v1 : Int32) (v2 : Int32) (v3 : Int32), f_X9_isCast_4 N V n4 v1 v2 v3 = some r → G 4 V [(0, .ref (ad 0)), (1, .int v1), (2, .int v2), (3, .int v3)] [] := by
    intro n4
    induction n4 with
    | zero => intro v1 v2 v3 h; rw [f_X9_isCast_4] at h; cases h
    | succ n4 ih4 =>
      have B28 : ∀ (v1 : Int32) (v3 : Int32) (s0 : Int32) (s1 : Int32), f_X9_isCast_28 N V (f_X9_isCast_4 N V n4) v1 v3 s0 s1 = some r → G 28 V [(0, .ref (ad 0)), (1, .int v1), (3, .int v3)] [.int s0, .int s1] := by
        intro v1 v3 s0 s1 h
        rw [hG]
        intro H locs ls w hl
        rw [f_X9_isCast_28] at h
        refine lv_ior hx hb dX9_isCast_28 ?_
        refine lv_topi (fun x36 ex36 => ?_)
        replace h := bdi h _ ex36
        refine lv_istore_n (lv' := [(2, .int x36), (0, .ref (ad 0)), (1, .int v1), (3, .int v3)]) hx hb dX9_isCast_29 rfl hl (by decide) rfl (fun ls hl => ?_)
        obtain ⟨x37, ex37⟩ : ∃ y : Int32, y = v3 + (1 : Int32) := ⟨_, rfl⟩
        replace h := bdi h _ ex37
        refine lv_iinc (v := x37) (lv' := [(3, .int x37), (2, .int x36), (0, .ref (ad 0)), (1, .int v1)]) hx hb dX9_isCast_30 hl (k := 3) rfl (by rw [ex37]; rfl) (by decide) rfl (fun ls hl => ?_)
        refine lv_goto (tgt := 4) hx hb dX9_isCast_33 (by decide) ?_
        have g := ih4 v1 x36 x37 h
        rw [hG] at g
        exact g H locs ls w (lv_sub hl [2, 3, 1, 0] rfl)
      intro v1 v2 v3 h
      rw [hG]
      intro H locs ls w hl
      rw [f_X9_isCast_4] at h
      refine lv_iload_n hx hb dX9_isCast_4 rfl (lv_at hl 3 rfl) ?_
      refine lv_bipush (v := 25) hx hb dX9_isCast_5 (by decide) ?_
      refine lv_icmp_ge (tgt := 36) hx hb dX9_isCast_7 (by decide) (fun c15 => ?_) (fun c15 => ?_)
      · replace h := ifT h c15
        refine lv_iload_n hx hb dX9_isCast_36 rfl (lv_at hl 2 rfl) ?_
        refine lv_if_ne (tgt := 42) hx hb dX9_isCast_37 (by decide) (fun c16 => ?_) (fun c16 => ?_)
        · replace h := ifF h c16
          refine lv_aload_n hx hb dX9_isCast_42 rfl (lv_at hl 0 rfl) ?_
          refine lv_iload_n hx hb dX9_isCast_43 rfl (lv_at hl 1 rfl) ?_
          obtain ⟨r17, q18, h⟩ := ob1i h
          refine m_ci (m_rV (As := [.int v1]) (rest := []) X w hl mi_X9_isOnRing ml_X9_382 0 sm_n0 sm_k0 rfl (c_X9_isOnRing l D cy ad A Kc C0 N z V v1 r17 q18) ⟨⟨rfl, rfl, Nat.le_of_ble_eq_true rfl, Nat.le_of_ble_eq_true rfl⟩, Nat.le_of_ble_eq_true rfl, Nat.le_of_ble_eq_true rfl⟩ rfl rfl (Nat.le_of_ble_eq_true rfl) dX9_isCast_44) w (fun H locs w => ?_)
          refine lv_if_ne (tgt := 52) hx hb dX9_isCast_47 (by decide) (fun c19 => ?_) (fun c19 => ?_)
          · replace h := ifF h c19
            refine lv_aload_n hx hb dX9_isCast_52 rfl (lv_at hl 0 rfl) ?_
            refine lv_iload_n hx hb dX9_isCast_53 rfl (lv_at hl 1 rfl) ?_
            obtain ⟨r20, q21, h⟩ := ob1i h
            refine m_ci (m_rV (As := [.int v1]) (rest := []) X w hl mi_X9_ringSet ml_X9_385 0 sm_n0 sm_k0 rfl (c_X9_ringSet l D cy ad A Kc C0 N z V v1 r20 q21) ⟨⟨rfl, rfl, Nat.le_of_ble_eq_true rfl, Nat.le_of_ble_eq_true rfl⟩, Nat.le_of_ble_eq_true rfl, Nat.le_of_ble_eq_true rfl⟩ rfl rfl (Nat.le_of_ble_eq_true rfl) dX9_isCast_54) w (fun H locs w => ?_)
            refine lv_istore_n (lv' := [(3, .int r20), (0, .ref (ad 0)), (1, .int v1), (2, .int v2)]) hx hb dX9_isCast_57 rfl hl (by decide) rfl (fun ls hl => ?_)
            refine lv_iload_n hx hb dX9_isCast_58 rfl (lv_at hl 0 rfl) ?_
            refine lv_iload_n hx hb dX9_isCast_59 rfl (lv_at hl 0 rfl) ?_
            refine lv_ineg hx hb dX9_isCast_60 ?_
            refine lv_iand hx hb dX9_isCast_61 ?_
            refine lv_iconst (v := 1) hx hb dX9_isCast_62 (by decide) ?_
            refine lv_iload_n hx hb dX9_isCast_63 rfl (lv_at hl 2 rfl) ?_
            refine lv_ishl hx hb dX9_isCast_64 ?_
            refine lv_icmp_eq (tgt := 70) hx hb dX9_isCast_65 (by decide) (fun c22 => ?_) (fun c22 => ?_)
            · replace h := ifT h c22
              refine lv_iconst (v := 0) hx hb dX9_isCast_70 (by decide) ?_
              refine lv_istore (lv' := [(4, .int (0 : Int32)), (3, .int r20), (0, .ref (ad 0)), (1, .int v1), (2, .int v2)]) hx hb dX9_isCast_71 hl (by decide) rfl (fun ls hl => ?_)
              have g := L73 N r20 (0 : Int32) h
              rw [hG] at g
              exact g H locs ls w (lv_sub hl [2, 1, 0] rfl)
            · replace h := ifF h c22
              refine lv_iconst (v := 0) hx hb dX9_isCast_68 (by decide) ?_
              obtain rfl := Option.some.inj h
              exact m_rz X w hr rfl hlocks dX9_isCast_69
          · replace h := ifT h c19
            refine lv_iconst (v := 0) hx hb dX9_isCast_50 (by decide) ?_
            obtain rfl := Option.some.inj h
            exact m_rz X w hr rfl hlocks dX9_isCast_51
        · replace h := ifT h c16
          refine lv_iconst (v := 1) hx hb dX9_isCast_40 (by decide) ?_
          obtain rfl := Option.some.inj h
          exact m_rz X w hr rfl hlocks dX9_isCast_41
      · replace h := ifF h c15
        refine lv_iload_n hx hb dX9_isCast_10 rfl (lv_at hl 2 rfl) ?_
        refine lv_aload_n hx hb dX9_isCast_11 rfl (lv_at hl 0 rfl) ?_
        refine m_get X w 0 sm_n0 sm_k0 ci9 35 (by decide) (fvR sm_k0 rfl sm_p35) rfl fl_X9_81 dX9_isCast_12 ?_
        refine lv_iload_n hx hb dX9_isCast_15 rfl (lv_at hl 3 rfl) ?_
        obtain ⟨g34, h⟩ := cki h
        refine m_iald X w 18 sm_n18 sm_k18 sm_z18 g34 dX9_isCast_16 ?_
        refine lv_iload_n hx hb dX9_isCast_17 rfl (lv_at hl 1 rfl) ?_
        refine lv_icmp_ne (tgt := 27) hx hb dX9_isCast_18 (by decide) (fun c35 => ?_) (fun c35 => ?_)
        · replace h := ifF h c35
          refine lv_iconst (v := 0) hx hb dX9_isCast_27 (by decide) ?_
          have g := B28 v1 v3 (0 : Int32) v2 h
          rw [hG] at g
          exact g H locs ls w (lv_sub hl [0, 1, 3] rfl)
        · replace h := ifT h c35
          refine lv_iconst (v := 1) hx hb dX9_isCast_21 (by decide) ?_
          refine lv_iload_n hx hb dX9_isCast_22 rfl (lv_at hl 3 rfl) ?_
          refine lv_ishl hx hb dX9_isCast_23 ?_
          refine lv_goto (tgt := 28) hx hb dX9_isCast_24 (by decide) ?_
          have g := B28 v1 v3 ((1 : Int32) <<< (v3 &&& 31)) v2 h
          rw [hG] at g
          exact g H locs ls w (lv_sub hl [0, 1, 3] rfl)
  rw [f_X9_isCast] at h
  refine lv_iconst (v := 0) hx hb dX9_isCast_0 (by decide) ?_
  refine lv_istore_n (lv' := [(2, .int (0 : Int32)), (0, .ref (ad 0)), (1, .int a1)]) hx hb dX9_isCast_1 rfl hl (by decide) rfl (fun ls hl => ?_)
  refine lv_iconst (v := 0) hx hb dX9_isCast_2 (by decide) ?_
  refine lv_istore_n (lv' := [(3, .int (0 : Int32)), (2, .int (0 : Int32)), (0, .ref (ad 0)), (1, .int a1)]) hx hb dX9_isCast_3 rfl hl (by decide) rfl (fun ls hl => ?_)
  have g := L4 N a1 (0 : Int32) (0 : Int32) h
  rw [hG] at g
  exact g H locs ls w (lv_sub hl [2, 3, 1, 0] rfl)
def f_X9_seen_27 (N : Nat) (V : Vt) : Option (Int32 × Vt) := ob (f_X9_refuses N V (-1 : Int32)) (fun r32 V34 => some (r32, V34))
def f_X9_seen (N : Nat) (V : Vt) (a1 : Int32) (a2 : Int32) (a3 : Int32) : Option (Int32 × Vt) := ob1 (f_X9_isCell N a1) (fun r29 => if r29 = 0 then f_X9_seen_27 N V  else ob1 (f_X9_lies N a2 (0 : Int32) (99 : Int32)) (fun r35 => if r35 = 0 then f_X9_seen_27 N V  else ob1 (f_X9_lies N a3 (0 : Int32) (25 : Int32)) (fun r38 => if r38 = 0 then f_X9_seen_27 N V  else ck (104 : Int32) 5715 (bd ((47 : Int32) + ((3 : Int32) * (V.2.1 2 (104 : Int32).toNatClampNeg))) (fun x42 => ck (104 : Int32) 5715 (if (V.2.1 2 (104 : Int32).toNatClampNeg) = (8 : Int32) then ob (f_X9_refuses N V (-5 : Int32)) (fun r58 V60 => some (r58, V60)) else ck x42 5715 (bd (sA V 2 x42.toNatClampNeg a1) (fun V46 => ck (x42 + (1 : Int32)) 5715 (bd (sA V46 2 (x42 + (1 : Int32)).toNatClampNeg a2) (fun V48 => ck (x42 + (2 : Int32)) 5715 (bd (sA V48 2 (x42 + (2 : Int32)).toNatClampNeg a3) (fun V50 => ck (104 : Int32) 5715 (ck (104 : Int32) 5715 (bd (sA V50 2 (104 : Int32).toNatClampNeg ((V50.2.1 2 (104 : Int32).toNatClampNeg) + (1 : Int32))) (fun V53 => ck (104 : Int32) 5715 (ob (f_X9_good N V53 (V53.2.1 2 (104 : Int32).toNatClampNeg)) (fun r55 V57 => some (r55, V57))))))))))))))))))
set_option maxHeartbeats 4000000 in
set_option maxRecDepth 100000 in
theorem c_X9_seen (l : Launch) (D : va_G) (cy : Nat → ClassId) (ad : Nat → Nat) (A : Nat → Prop) (Kc : State → Prop) (C0 : Cx ad A Kc) (N : Nat) (z : Nat) (V : Vt) (a1 : Int32) (a2 : Int32) (a3 : Int32) (r : Int32) (V' : Vt) (h : f_X9_seen N V a1 a2 a3 = some (r, V')) : Met l yX9_seen (mw yX9_seen cX9_seen 5 (some .int)) { frames := 2, cells := 0, slots := 0, locals := 42 } (PreM D cy ad Kc (SM z) V [.ref (ad 0), .int a1, .int a2, .int a3]) (QI D cy ad A r (SM z) V') 0 0 A := by
  refine ct_go C0 (own := RX9) rfl (by decide) rfl ?_
  intro p e s m below meth c ls H locs X hr hlocks hnm hl w
  have hx := X.1.1
  have hb := X.1.2.1
  have hown := X.2.1
  have hts := X.2.2.1
  have hl : lv_has ls 5 [(0, .ref (ad 0)), (1, .int a1), (2, .int a2), (3, .int a3)] := hl
  obtain ⟨G, hG⟩ : ∃ G : Nat → Vt → List (Nat × Value) → List Value → Prop, G = fun pc V lv st => ∀ (H : Heap) (locs : List Loc) (ls : Array Slot), Wd D cy ad A s.heap (SM z) V H locs → lv_has ls 5 lv → W p l e { frames := 2, cells := 0, slots := 0, locals := 42 } s m ([.ref (ad 0), .int a1, .int a2, .int a3] : List Value).toArray below meth c H locs 0 0 (MQ below (QI D cy ad A r (SM z) V') ([.ref (ad 0), .int a1, .int a2, .int a3] : List Value).toArray s 0 0 A) (F0 m pc ls st) := ⟨_, rfl⟩
  have B27 : ∀ (V : Vt), f_X9_seen_27 N V  = some (r, V') → G 27 V [(0, .ref (ad 0))] [] := by
    intro V  h
    rw [hG]
    intro H locs ls w hl
    rw [f_X9_seen_27] at h
    refine lv_aload_n hx hb dX9_seen_27 rfl (lv_at hl 0 rfl) ?_
    refine lv_iconst (v := (-1)) hx hb dX9_seen_28 (by decide) ?_
    obtain ⟨r32, V34, q33, h⟩ := obi h
    refine m_ci (m_rV (As := [.int (-1 : Int32)]) (rest := []) X w hl mi_X9_refuses ml_X9_109 0 sm_n0 sm_k0 rfl (c_X9_refuses l D cy ad A Kc C0 N z V (-1 : Int32) r32 V34 q33) ⟨⟨rfl, rfl, Nat.le_of_ble_eq_true rfl, Nat.le_of_ble_eq_true rfl⟩, Nat.le_of_ble_eq_true rfl, Nat.le_of_ble_eq_true rfl⟩ rfl rfl (Nat.le_of_ble_eq_true rfl) dX9_seen_29) w (fun H locs w => ?_)
    obtain ⟨rfl, rfl⟩ := reti h
    exact m_ri X w hr hlocks dX9_seen_32
  rw [f_X9_seen] at h
  refine lv_iload_n hx hb dX9_seen_0 rfl (lv_at hl 1 rfl) ?_
  obtain ⟨r29, q30, h⟩ := ob1i h
  refine m_ci (m_rS (As := [.int a1]) (rest := []) X w hl mi_X9_isCell ml_X9_115 (c_X9_isCell l D cy ad A Kc C0 N z V a1 r29 q30) ⟨⟨rfl, rfl, Nat.le_of_ble_eq_true rfl, Nat.le_of_ble_eq_true rfl⟩, Nat.le_of_ble_eq_true rfl, Nat.le_of_ble_eq_true rfl⟩ rfl rfl (Nat.le_of_ble_eq_true rfl) dX9_seen_1) w (fun H locs w => ?_)
  refine lv_if_eq (tgt := 27) hx hb dX9_seen_4 (by decide) (fun c31 => ?_) (fun c31 => ?_)
  · replace h := ifT h c31
    have g := B27 V  h
    rw [hG] at g
    exact g H locs ls w (lv_sub hl [0] rfl)
  · replace h := ifF h c31
    refine lv_iload_n hx hb dX9_seen_7 rfl (lv_at hl 2 rfl) ?_
    refine lv_iconst (v := 0) hx hb dX9_seen_8 (by decide) ?_
    refine lv_bipush (v := 99) hx hb dX9_seen_9 (by decide) ?_
    obtain ⟨r35, q36, h⟩ := ob1i h
    refine m_ci (m_rS (As := [.int a2, .int (0 : Int32), .int (99 : Int32)]) (rest := []) X w hl mi_X9_lies ml_X9_18 (c_X9_lies l D cy ad A Kc C0 N z V a2 (0 : Int32) (99 : Int32) r35 q36) ⟨⟨rfl, rfl, Nat.le_of_ble_eq_true rfl, Nat.le_of_ble_eq_true rfl⟩, Nat.le_of_ble_eq_true rfl, Nat.le_of_ble_eq_true rfl⟩ rfl rfl (Nat.le_of_ble_eq_true rfl) dX9_seen_11) w (fun H locs w => ?_)
    refine lv_if_eq (tgt := 27) hx hb dX9_seen_14 (by decide) (fun c37 => ?_) (fun c37 => ?_)
    · replace h := ifT h c37
      have g := B27 V  h
      rw [hG] at g
      exact g H locs ls w (lv_sub hl [0] rfl)
    · replace h := ifF h c37
      refine lv_iload_n hx hb dX9_seen_17 rfl (lv_at hl 3 rfl) ?_
      refine lv_iconst (v := 0) hx hb dX9_seen_18 (by decide) ?_
      refine lv_bipush (v := 25) hx hb dX9_seen_19 (by decide) ?_
      obtain ⟨r38, q39, h⟩ := ob1i h
      refine m_ci (m_rS (As := [.int a3, .int (0 : Int32), .int (25 : Int32)]) (rest := []) X w hl mi_X9_lies ml_X9_18 (c_X9_lies l D cy ad A Kc C0 N z V a3 (0 : Int32) (25 : Int32) r38 q39) ⟨⟨rfl, rfl, Nat.le_of_ble_eq_true rfl, Nat.le_of_ble_eq_true rfl⟩, Nat.le_of_ble_eq_true rfl, Nat.le_of_ble_eq_true rfl⟩ rfl rfl (Nat.le_of_ble_eq_true rfl) dX9_seen_21) w (fun H locs w => ?_)
      refine lv_if_ne (tgt := 33) hx hb dX9_seen_24 (by decide) (fun c40 => ?_) (fun c40 => ?_)
      · replace h := ifF h c40
        refine lv_bipush (v := 47) hx hb dX9_seen_33 (by decide) ?_
        refine lv_iconst (v := 3) hx hb dX9_seen_35 (by decide) ?_
        refine lv_aload_n hx hb dX9_seen_36 rfl (lv_at hl 0 rfl) ?_
        refine m_get X w 0 sm_n0 sm_k0 ci9 2 (by decide) (fvR sm_k0 rfl sm_p2) rfl fl_X9_28 dX9_seen_37 ?_
        refine lv_bipush (v := 104) hx hb dX9_seen_40 (by decide) ?_
        obtain ⟨g41, h⟩ := cki h
        refine m_iald X w 2 sm_n2 sm_k2 sm_z2 g41 dX9_seen_42 ?_
        refine lv_imul hx hb dX9_seen_43 ?_
        refine lv_iadd hx hb dX9_seen_44 ?_
        refine lv_topi (fun x42 ex42 => ?_)
        replace h := bdi h _ ex42
        refine lv_istore (lv' := [(4, .int x42), (0, .ref (ad 0)), (1, .int a1), (2, .int a2), (3, .int a3)]) hx hb dX9_seen_45 hl (by decide) rfl (fun ls hl => ?_)
        refine lv_aload_n hx hb dX9_seen_47 rfl (lv_at hl 1 rfl) ?_
        refine m_get X w 0 sm_n0 sm_k0 ci9 2 (by decide) (fvR sm_k0 rfl sm_p2) rfl fl_X9_28 dX9_seen_48 ?_
        refine lv_bipush (v := 104) hx hb dX9_seen_51 (by decide) ?_
        obtain ⟨g43, h⟩ := cki h
        refine m_iald X w 2 sm_n2 sm_k2 sm_z2 g43 dX9_seen_53 ?_
        refine lv_bipush (v := 8) hx hb dX9_seen_54 (by decide) ?_
        refine lv_icmp_ne (tgt := 66) hx hb dX9_seen_56 (by decide) (fun c44 => ?_) (fun c44 => ?_)
        · replace h := ifF h c44
          refine lv_aload_n hx hb dX9_seen_66 rfl (lv_at hl 1 rfl) ?_
          refine m_get X w 0 sm_n0 sm_k0 ci9 2 (by decide) (fvR sm_k0 rfl sm_p2) rfl fl_X9_28 dX9_seen_67 ?_
          refine lv_iload hx hb dX9_seen_70 (lv_at hl 0 rfl) ?_
          refine lv_iload_n hx hb dX9_seen_72 rfl (lv_at hl 2 rfl) ?_
          obtain ⟨g45, h⟩ := cki h
          refine m_iast X w 2 sm_n2 sm_k2 sm_z2 g45 dX9_seen_73 (fun V46 H locs eV46 w => ?_)
          replace h := bdi h _ eV46
          refine lv_aload_n hx hb dX9_seen_74 rfl (lv_at hl 1 rfl) ?_
          refine m_get X w 0 sm_n0 sm_k0 ci9 2 (by decide) (fvR sm_k0 rfl sm_p2) rfl fl_X9_28 dX9_seen_75 ?_
          refine lv_iload hx hb dX9_seen_78 (lv_at hl 0 rfl) ?_
          refine lv_iconst (v := 1) hx hb dX9_seen_80 (by decide) ?_
          refine lv_iadd hx hb dX9_seen_81 ?_
          refine lv_iload_n hx hb dX9_seen_82 rfl (lv_at hl 3 rfl) ?_
          obtain ⟨g47, h⟩ := cki h
          refine m_iast X w 2 sm_n2 sm_k2 sm_z2 g47 dX9_seen_83 (fun V48 H locs eV48 w => ?_)
          replace h := bdi h _ eV48
          refine lv_aload_n hx hb dX9_seen_84 rfl (lv_at hl 1 rfl) ?_
          refine m_get X w 0 sm_n0 sm_k0 ci9 2 (by decide) (fvR sm_k0 rfl sm_p2) rfl fl_X9_28 dX9_seen_85 ?_
          refine lv_iload hx hb dX9_seen_88 (lv_at hl 0 rfl) ?_
          refine lv_iconst (v := 2) hx hb dX9_seen_90 (by decide) ?_
          refine lv_iadd hx hb dX9_seen_91 ?_
          refine lv_iload_n hx hb dX9_seen_92 rfl (lv_at hl 4 rfl) ?_
          obtain ⟨g49, h⟩ := cki h
          refine m_iast X w 2 sm_n2 sm_k2 sm_z2 g49 dX9_seen_93 (fun V50 H locs eV50 w => ?_)
          replace h := bdi h _ eV50
          refine lv_aload_n hx hb dX9_seen_94 rfl (lv_at hl 1 rfl) ?_
          refine m_get X w 0 sm_n0 sm_k0 ci9 2 (by decide) (fvR sm_k0 rfl sm_p2) rfl fl_X9_28 dX9_seen_95 ?_
          refine lv_bipush (v := 104) hx hb dX9_seen_98 (by decide) ?_
          refine lv_dup2_11 hx hb dX9_seen_100 rfl rfl ?_
          obtain ⟨g51, h⟩ := cki h
          refine m_iald X w 2 sm_n2 sm_k2 sm_z2 g51 dX9_seen_101 ?_
          refine lv_iconst (v := 1) hx hb dX9_seen_102 (by decide) ?_
          refine lv_iadd hx hb dX9_seen_103 ?_
          obtain ⟨g52, h⟩ := cki h
          refine m_iast X w 2 sm_n2 sm_k2 sm_z2 g52 dX9_seen_104 (fun V53 H locs eV53 w => ?_)
          replace h := bdi h _ eV53
          refine lv_aload_n hx hb dX9_seen_105 rfl (lv_at hl 1 rfl) ?_
          refine lv_aload_n hx hb dX9_seen_106 rfl (lv_at hl 1 rfl) ?_
          refine m_get X w 0 sm_n0 sm_k0 ci9 2 (by decide) (fvR sm_k0 rfl sm_p2) rfl fl_X9_28 dX9_seen_107 ?_
          refine lv_bipush (v := 104) hx hb dX9_seen_110 (by decide) ?_
          obtain ⟨g54, h⟩ := cki h
          refine m_iald X w 2 sm_n2 sm_k2 sm_z2 g54 dX9_seen_112 ?_
          obtain ⟨r55, V57, q56, h⟩ := obi h
          refine m_ci (m_rV (As := [.int (V53.2.1 2 (104 : Int32).toNatClampNeg)]) (rest := []) X w hl mi_X9_good ml_X9_14 0 sm_n0 sm_k0 rfl (c_X9_good l D cy ad A Kc C0 N z V53 (V53.2.1 2 (104 : Int32).toNatClampNeg) r55 V57 q56) ⟨⟨rfl, rfl, Nat.le_of_ble_eq_true rfl, Nat.le_of_ble_eq_true rfl⟩, Nat.le_of_ble_eq_true rfl, Nat.le_of_ble_eq_true rfl⟩ rfl rfl (Nat.le_of_ble_eq_true rfl) dX9_seen_113) w (fun H locs w => ?_)
          obtain ⟨rfl, rfl⟩ := reti h
          exact m_ri X w hr hlocks dX9_seen_116
        · replace h := ifT h c44
          refine lv_aload_n hx hb dX9_seen_59 rfl (lv_at hl 1 rfl) ?_
          refine lv_bipush (v := (-5)) hx hb dX9_seen_60 (by decide) ?_
          obtain ⟨r58, V60, q59, h⟩ := obi h
          refine m_ci (m_rV (As := [.int (-5 : Int32)]) (rest := []) X w hl mi_X9_refuses ml_X9_109 0 sm_n0 sm_k0 rfl (c_X9_refuses l D cy ad A Kc C0 N z V (-5 : Int32) r58 V60 q59) ⟨⟨rfl, rfl, Nat.le_of_ble_eq_true rfl, Nat.le_of_ble_eq_true rfl⟩, Nat.le_of_ble_eq_true rfl, Nat.le_of_ble_eq_true rfl⟩ rfl rfl (Nat.le_of_ble_eq_true rfl) dX9_seen_62) w (fun H locs w => ?_)
          obtain ⟨rfl, rfl⟩ := reti h
          exact m_ri X w hr hlocks dX9_seen_65
      · replace h := ifT h c40
        have g := B27 V  h
        rw [hG] at g
        exact g H locs ls w (lv_sub hl [0] rfl)
def f_X9_booked_30 (N : Nat) (V : Vt) : Option (Int32 × Vt) := ob (f_X9_refuses N V (-1 : Int32)) (fun r32 V34 => some (r32, V34))
def f_X9_booked (N : Nat) (V : Vt) (a1 : Int32) (a2 : Int32) (a3 : Int32) : Option (Int32 × Vt) := ob1 (f_X9_isFive N a1) (fun r29 => if r29 = 0 then f_X9_booked_30 N V  else ob1 (f_X9_isFive N a2) (fun r35 => if r35 = 0 then f_X9_booked_30 N V  else if a1 = a2 then f_X9_booked_30 N V  else ob1 (f_X9_lies N a3 (1 : Int32) (999 : Int32)) (fun r39 => if r39 = 0 then f_X9_booked_30 N V  else ck (105 : Int32) 5715 (bd ((71 : Int32) + ((3 : Int32) * (V.2.1 2 (105 : Int32).toNatClampNeg))) (fun x43 => ck (105 : Int32) 5715 (if (V.2.1 2 (105 : Int32).toNatClampNeg) = (10 : Int32) then ob (f_X9_refuses N V (-5 : Int32)) (fun r59 V61 => some (r59, V61)) else ck x43 5715 (bd (sA V 2 x43.toNatClampNeg a1) (fun V47 => ck (x43 + (1 : Int32)) 5715 (bd (sA V47 2 (x43 + (1 : Int32)).toNatClampNeg a2) (fun V49 => ck (x43 + (2 : Int32)) 5715 (bd (sA V49 2 (x43 + (2 : Int32)).toNatClampNeg a3) (fun V51 => ck (105 : Int32) 5715 (ck (105 : Int32) 5715 (bd (sA V51 2 (105 : Int32).toNatClampNeg ((V51.2.1 2 (105 : Int32).toNatClampNeg) + (1 : Int32))) (fun V54 => ck (105 : Int32) 5715 (ob (f_X9_good N V54 (V54.2.1 2 (105 : Int32).toNatClampNeg)) (fun r56 V58 => some (r56, V58))))))))))))))))))
set_option maxHeartbeats 4000000 in
set_option maxRecDepth 100000 in
theorem c_X9_booked (l : Launch) (D : va_G) (cy : Nat → ClassId) (ad : Nat → Nat) (A : Nat → Prop) (Kc : State → Prop) (C0 : Cx ad A Kc) (N : Nat) (z : Nat) (V : Vt) (a1 : Int32) (a2 : Int32) (a3 : Int32) (r : Int32) (V' : Vt) (h : f_X9_booked N V a1 a2 a3 = some (r, V')) : Met l yX9_booked (mw yX9_booked cX9_booked 5 (some .int)) { frames := 2, cells := 0, slots := 0, locals := 42 } (PreM D cy ad Kc (SM z) V [.ref (ad 0), .int a1, .int a2, .int a3]) (QI D cy ad A r (SM z) V') 0 0 A := by
  refine ct_go C0 (own := RX9) rfl (by decide) rfl ?_
  intro p e s m below meth c ls H locs X hr hlocks hnm hl w
  have hx := X.1.1
  have hb := X.1.2.1
  have hown := X.2.1
  have hts := X.2.2.1
  have hl : lv_has ls 5 [(0, .ref (ad 0)), (1, .int a1), (2, .int a2), (3, .int a3)] := hl
  obtain ⟨G, hG⟩ : ∃ G : Nat → Vt → List (Nat × Value) → List Value → Prop, G = fun pc V lv st => ∀ (H : Heap) (locs : List Loc) (ls : Array Slot), Wd D cy ad A s.heap (SM z) V H locs → lv_has ls 5 lv → W p l e { frames := 2, cells := 0, slots := 0, locals := 42 } s m ([.ref (ad 0), .int a1, .int a2, .int a3] : List Value).toArray below meth c H locs 0 0 (MQ below (QI D cy ad A r (SM z) V') ([.ref (ad 0), .int a1, .int a2, .int a3] : List Value).toArray s 0 0 A) (F0 m pc ls st) := ⟨_, rfl⟩
  have B30 : ∀ (V : Vt), f_X9_booked_30 N V  = some (r, V') → G 30 V [(0, .ref (ad 0))] [] := by
    intro V  h
    rw [hG]
    intro H locs ls w hl
    rw [f_X9_booked_30] at h
    refine lv_aload_n hx hb dX9_booked_30 rfl (lv_at hl 0 rfl) ?_
    refine lv_iconst (v := (-1)) hx hb dX9_booked_31 (by decide) ?_
    obtain ⟨r32, V34, q33, h⟩ := obi h
    refine m_ci (m_rV (As := [.int (-1 : Int32)]) (rest := []) X w hl mi_X9_refuses ml_X9_109 0 sm_n0 sm_k0 rfl (c_X9_refuses l D cy ad A Kc C0 N z V (-1 : Int32) r32 V34 q33) ⟨⟨rfl, rfl, Nat.le_of_ble_eq_true rfl, Nat.le_of_ble_eq_true rfl⟩, Nat.le_of_ble_eq_true rfl, Nat.le_of_ble_eq_true rfl⟩ rfl rfl (Nat.le_of_ble_eq_true rfl) dX9_booked_32) w (fun H locs w => ?_)
    obtain ⟨rfl, rfl⟩ := reti h
    exact m_ri X w hr hlocks dX9_booked_35
  rw [f_X9_booked] at h
  refine lv_iload_n hx hb dX9_booked_0 rfl (lv_at hl 1 rfl) ?_
  obtain ⟨r29, q30, h⟩ := ob1i h
  refine m_ci (m_rS (As := [.int a1]) (rest := []) X w hl mi_X9_isFive ml_X9_129 (c_X9_isFive l D cy ad A Kc C0 N z V a1 r29 q30) ⟨⟨rfl, rfl, Nat.le_of_ble_eq_true rfl, Nat.le_of_ble_eq_true rfl⟩, Nat.le_of_ble_eq_true rfl, Nat.le_of_ble_eq_true rfl⟩ rfl rfl (Nat.le_of_ble_eq_true rfl) dX9_booked_1) w (fun H locs w => ?_)
  refine lv_if_eq (tgt := 30) hx hb dX9_booked_4 (by decide) (fun c31 => ?_) (fun c31 => ?_)
  · replace h := ifT h c31
    have g := B30 V  h
    rw [hG] at g
    exact g H locs ls w (lv_sub hl [0] rfl)
  · replace h := ifF h c31
    refine lv_iload_n hx hb dX9_booked_7 rfl (lv_at hl 2 rfl) ?_
    obtain ⟨r35, q36, h⟩ := ob1i h
    refine m_ci (m_rS (As := [.int a2]) (rest := []) X w hl mi_X9_isFive ml_X9_129 (c_X9_isFive l D cy ad A Kc C0 N z V a2 r35 q36) ⟨⟨rfl, rfl, Nat.le_of_ble_eq_true rfl, Nat.le_of_ble_eq_true rfl⟩, Nat.le_of_ble_eq_true rfl, Nat.le_of_ble_eq_true rfl⟩ rfl rfl (Nat.le_of_ble_eq_true rfl) dX9_booked_8) w (fun H locs w => ?_)
    refine lv_if_eq (tgt := 30) hx hb dX9_booked_11 (by decide) (fun c37 => ?_) (fun c37 => ?_)
    · replace h := ifT h c37
      have g := B30 V  h
      rw [hG] at g
      exact g H locs ls w (lv_sub hl [0] rfl)
    · replace h := ifF h c37
      refine lv_iload_n hx hb dX9_booked_14 rfl (lv_at hl 1 rfl) ?_
      refine lv_iload_n hx hb dX9_booked_15 rfl (lv_at hl 2 rfl) ?_
      refine lv_icmp_eq (tgt := 30) hx hb dX9_booked_16 (by decide) (fun c38 => ?_) (fun c38 => ?_)
      · replace h := ifT h c38
        have g := B30 V  h
        rw [hG] at g
        exact g H locs ls w (lv_sub hl [0] rfl)
      · replace h := ifF h c38
        refine lv_iload_n hx hb dX9_booked_19 rfl (lv_at hl 3 rfl) ?_
        refine lv_iconst (v := 1) hx hb dX9_booked_20 (by decide) ?_
        refine lv_sipush (v := 999) hx hb dX9_booked_21 (by decide) ?_
        obtain ⟨r39, q40, h⟩ := ob1i h
        refine m_ci (m_rS (As := [.int a3, .int (1 : Int32), .int (999 : Int32)]) (rest := []) X w hl mi_X9_lies ml_X9_18 (c_X9_lies l D cy ad A Kc C0 N z V a3 (1 : Int32) (999 : Int32) r39 q40) ⟨⟨rfl, rfl, Nat.le_of_ble_eq_true rfl, Nat.le_of_ble_eq_true rfl⟩, Nat.le_of_ble_eq_true rfl, Nat.le_of_ble_eq_true rfl⟩ rfl rfl (Nat.le_of_ble_eq_true rfl) dX9_booked_24) w (fun H locs w => ?_)
        refine lv_if_ne (tgt := 36) hx hb dX9_booked_27 (by decide) (fun c41 => ?_) (fun c41 => ?_)
        · replace h := ifF h c41
          refine lv_bipush (v := 71) hx hb dX9_booked_36 (by decide) ?_
          refine lv_iconst (v := 3) hx hb dX9_booked_38 (by decide) ?_
          refine lv_aload_n hx hb dX9_booked_39 rfl (lv_at hl 0 rfl) ?_
          refine m_get X w 0 sm_n0 sm_k0 ci9 2 (by decide) (fvR sm_k0 rfl sm_p2) rfl fl_X9_28 dX9_booked_40 ?_
          refine lv_bipush (v := 105) hx hb dX9_booked_43 (by decide) ?_
          obtain ⟨g42, h⟩ := cki h
          refine m_iald X w 2 sm_n2 sm_k2 sm_z2 g42 dX9_booked_45 ?_
          refine lv_imul hx hb dX9_booked_46 ?_
          refine lv_iadd hx hb dX9_booked_47 ?_
          refine lv_topi (fun x43 ex43 => ?_)
          replace h := bdi h _ ex43
          refine lv_istore (lv' := [(4, .int x43), (0, .ref (ad 0)), (1, .int a1), (2, .int a2), (3, .int a3)]) hx hb dX9_booked_48 hl (by decide) rfl (fun ls hl => ?_)
          refine lv_aload_n hx hb dX9_booked_50 rfl (lv_at hl 1 rfl) ?_
          refine m_get X w 0 sm_n0 sm_k0 ci9 2 (by decide) (fvR sm_k0 rfl sm_p2) rfl fl_X9_28 dX9_booked_51 ?_
          refine lv_bipush (v := 105) hx hb dX9_booked_54 (by decide) ?_
          obtain ⟨g44, h⟩ := cki h
          refine m_iald X w 2 sm_n2 sm_k2 sm_z2 g44 dX9_booked_56 ?_
          refine lv_bipush (v := 10) hx hb dX9_booked_57 (by decide) ?_
          refine lv_icmp_ne (tgt := 69) hx hb dX9_booked_59 (by decide) (fun c45 => ?_) (fun c45 => ?_)
          · replace h := ifF h c45
            refine lv_aload_n hx hb dX9_booked_69 rfl (lv_at hl 1 rfl) ?_
            refine m_get X w 0 sm_n0 sm_k0 ci9 2 (by decide) (fvR sm_k0 rfl sm_p2) rfl fl_X9_28 dX9_booked_70 ?_
            refine lv_iload hx hb dX9_booked_73 (lv_at hl 0 rfl) ?_
            refine lv_iload_n hx hb dX9_booked_75 rfl (lv_at hl 2 rfl) ?_
            obtain ⟨g46, h⟩ := cki h
            refine m_iast X w 2 sm_n2 sm_k2 sm_z2 g46 dX9_booked_76 (fun V47 H locs eV47 w => ?_)
            replace h := bdi h _ eV47
            refine lv_aload_n hx hb dX9_booked_77 rfl (lv_at hl 1 rfl) ?_
            refine m_get X w 0 sm_n0 sm_k0 ci9 2 (by decide) (fvR sm_k0 rfl sm_p2) rfl fl_X9_28 dX9_booked_78 ?_
            refine lv_iload hx hb dX9_booked_81 (lv_at hl 0 rfl) ?_
            refine lv_iconst (v := 1) hx hb dX9_booked_83 (by decide) ?_
            refine lv_iadd hx hb dX9_booked_84 ?_
            refine lv_iload_n hx hb dX9_booked_85 rfl (lv_at hl 3 rfl) ?_
            obtain ⟨g48, h⟩ := cki h
            refine m_iast X w 2 sm_n2 sm_k2 sm_z2 g48 dX9_booked_86 (fun V49 H locs eV49 w => ?_)
            replace h := bdi h _ eV49
            refine lv_aload_n hx hb dX9_booked_87 rfl (lv_at hl 1 rfl) ?_
            refine m_get X w 0 sm_n0 sm_k0 ci9 2 (by decide) (fvR sm_k0 rfl sm_p2) rfl fl_X9_28 dX9_booked_88 ?_
            refine lv_iload hx hb dX9_booked_91 (lv_at hl 0 rfl) ?_
            refine lv_iconst (v := 2) hx hb dX9_booked_93 (by decide) ?_
            refine lv_iadd hx hb dX9_booked_94 ?_
            refine lv_iload_n hx hb dX9_booked_95 rfl (lv_at hl 4 rfl) ?_
            obtain ⟨g50, h⟩ := cki h
            refine m_iast X w 2 sm_n2 sm_k2 sm_z2 g50 dX9_booked_96 (fun V51 H locs eV51 w => ?_)
            replace h := bdi h _ eV51
            refine lv_aload_n hx hb dX9_booked_97 rfl (lv_at hl 1 rfl) ?_
            refine m_get X w 0 sm_n0 sm_k0 ci9 2 (by decide) (fvR sm_k0 rfl sm_p2) rfl fl_X9_28 dX9_booked_98 ?_
            refine lv_bipush (v := 105) hx hb dX9_booked_101 (by decide) ?_
            refine lv_dup2_11 hx hb dX9_booked_103 rfl rfl ?_
            obtain ⟨g52, h⟩ := cki h
            refine m_iald X w 2 sm_n2 sm_k2 sm_z2 g52 dX9_booked_104 ?_
            refine lv_iconst (v := 1) hx hb dX9_booked_105 (by decide) ?_
            refine lv_iadd hx hb dX9_booked_106 ?_
            obtain ⟨g53, h⟩ := cki h
            refine m_iast X w 2 sm_n2 sm_k2 sm_z2 g53 dX9_booked_107 (fun V54 H locs eV54 w => ?_)
            replace h := bdi h _ eV54
            refine lv_aload_n hx hb dX9_booked_108 rfl (lv_at hl 1 rfl) ?_
            refine lv_aload_n hx hb dX9_booked_109 rfl (lv_at hl 1 rfl) ?_
            refine m_get X w 0 sm_n0 sm_k0 ci9 2 (by decide) (fvR sm_k0 rfl sm_p2) rfl fl_X9_28 dX9_booked_110 ?_
            refine lv_bipush (v := 105) hx hb dX9_booked_113 (by decide) ?_
            obtain ⟨g55, h⟩ := cki h
            refine m_iald X w 2 sm_n2 sm_k2 sm_z2 g55 dX9_booked_115 ?_
            obtain ⟨r56, V58, q57, h⟩ := obi h
            refine m_ci (m_rV (As := [.int (V54.2.1 2 (105 : Int32).toNatClampNeg)]) (rest := []) X w hl mi_X9_good ml_X9_14 0 sm_n0 sm_k0 rfl (c_X9_good l D cy ad A Kc C0 N z V54 (V54.2.1 2 (105 : Int32).toNatClampNeg) r56 V58 q57) ⟨⟨rfl, rfl, Nat.le_of_ble_eq_true rfl, Nat.le_of_ble_eq_true rfl⟩, Nat.le_of_ble_eq_true rfl, Nat.le_of_ble_eq_true rfl⟩ rfl rfl (Nat.le_of_ble_eq_true rfl) dX9_booked_116) w (fun H locs w => ?_)
            obtain ⟨rfl, rfl⟩ := reti h
            exact m_ri X w hr hlocks dX9_booked_119
          · replace h := ifT h c45
            refine lv_aload_n hx hb dX9_booked_62 rfl (lv_at hl 1 rfl) ?_
            refine lv_bipush (v := (-5)) hx hb dX9_booked_63 (by decide) ?_
            obtain ⟨r59, V61, q60, h⟩ := obi h
            refine m_ci (m_rV (As := [.int (-5 : Int32)]) (rest := []) X w hl mi_X9_refuses ml_X9_109 0 sm_n0 sm_k0 rfl (c_X9_refuses l D cy ad A Kc C0 N z V (-5 : Int32) r59 V61 q60) ⟨⟨rfl, rfl, Nat.le_of_ble_eq_true rfl, Nat.le_of_ble_eq_true rfl⟩, Nat.le_of_ble_eq_true rfl, Nat.le_of_ble_eq_true rfl⟩ rfl rfl (Nat.le_of_ble_eq_true rfl) dX9_booked_65) w (fun H locs w => ?_)
            obtain ⟨rfl, rfl⟩ := reti h
            exact m_ri X w hr hlocks dX9_booked_68
        · replace h := ifT h c41
          have g := B30 V  h
          rw [hG] at g
          exact g H locs ls w (lv_sub hl [0] rfl)
def f_X9_through_91 (N : Nat) (V : Vt) (K40 : Int32 → Int32 → Int32 → Int32 → Int32 → Int32 → Option Int32) (v1 : Int32) (v2 : Int32) (v3 : Int32) (v4 : Int32) (v5 : Int32) (v6 : Int32) : Option Int32 := bd (v6 + (1 : Int32)) (fun x31 => K40 v1 v2 v3 v4 v5 x31)
def f_X9_through_40 (N : Nat) (V : Vt) : Nat → Int32 → Int32 → Int32 → Int32 → Int32 → Int32 → Option Int32
  | 0, _, _, _, _, _, _ => none
  | n + 1, v1, v2, v3, v4, v5, v6 => if (32 : Int32) ≤ v6 then if v3 = 0 then some v4 else some v5 else ob1 (f_X9_isIn N v6 v1) (fun r28 => if r28 = 0 then f_X9_through_91 N V (f_X9_through_40 N V n) v1 v2 v3 v4 v5 v6 else ob1 (f_X9_isIn N v6 v2) (fun r32 => if r32 = 0 then ob1 (f_X9_outOf N V v6) (fun r35 => if r35 < v4 then ob1 (f_X9_outOf N V v6) (fun r38 => f_X9_through_91 N V (f_X9_through_40 N V n) v1 v2 v3 r38 v6 v6) else f_X9_through_91 N V (f_X9_through_40 N V n) v1 v2 v3 v4 v5 v6) else f_X9_through_91 N V (f_X9_through_40 N V n) v1 v2 v3 v4 v5 v6))
def f_X9_through (N : Nat) (V : Vt) (a1 : Int32) (a2 : Int32) (a3 : Int32) : Option Int32 := ob1 (f_X9_isFive N a1) (fun r16 => if r16 = 0 then some (-1 : Int32) else ob1 (f_X9_isFive N a2) (fun r19 => if r19 = 0 then some (-1 : Int32) else if a1 = a2 then some (-1 : Int32) else ob1 (f_X9_lies N a3 (0 : Int32) (1 : Int32)) (fun r23 => if r23 = 0 then some (-1 : Int32) else f_X9_through_40 N V N a1 a2 a3 (1000000 : Int32) (-1 : Int32) (0 : Int32))))
set_option maxHeartbeats 4000000 in
set_option maxRecDepth 100000 in
theorem c_X9_through (l : Launch) (D : va_G) (cy : Nat → ClassId) (ad : Nat → Nat) (A : Nat → Prop) (Kc : State → Prop) (C0 : Cx ad A Kc) (N : Nat) (z : Nat) (V : Vt) (a1 : Int32) (a2 : Int32) (a3 : Int32) (r : Int32) (h : f_X9_through N V a1 a2 a3 = some r) : Met l yX9_through (mw yX9_through cX9_through 7 (some .int)) { frames := 2, cells := 0, slots := 0, locals := 45 } (PreM D cy ad Kc (SM z) V [.ref (ad 0), .int a1, .int a2, .int a3]) (QI D cy ad A r (SM z) V) 0 0 A := by
  refine ct_go C0 (own := RX9) rfl (by decide) rfl ?_
  intro p e s m below meth c ls H locs X hr hlocks hnm hl w
  have hx := X.1.1
  have hb := X.1.2.1
  have hown := X.2.1
  have hts := X.2.2.1
  have hl : lv_has ls 7 [(0, .ref (ad 0)), (1, .int a1), (2, .int a2), (3, .int a3)] := hl
  obtain ⟨G, hG⟩ : ∃ G : Nat → Vt → List (Nat × Value) → List Value → Prop, G = fun pc V lv st => ∀ (H : Heap) (locs : List Loc) (ls : Array Slot), Wd D cy ad A s.heap (SM z) V H locs → lv_has ls 7 lv → W p l e { frames := 2, cells := 0, slots := 0, locals := 45 } s m ([.ref (ad 0), .int a1, .int a2, .int a3] : List Value).toArray below meth c H locs 0 0 (MQ below (QI D cy ad A r (SM z) V) ([.ref (ad 0), .int a1, .int a2, .int a3] : List Value).toArray s 0 0 A) (F0 m pc ls st) := ⟨_, rfl⟩
  have L40 : ∀ (n40 : Nat) (v1 : Int32) (v2 : Int32) (v3 : Int32) (v4 : Int32) (v5 : Int32) (v6 : Int32), f_X9_through_40 N V n40 v1 v2 v3 v4 v5 v6 = some r → G 40 V [(0, .ref (ad 0)), (1, .int v1), (2, .int v2), (3, .int v3), (4, .int v4), (5, .int v5), (6, .int v6)] [] := by
    intro n40
    induction n40 with
    | zero => intro v1 v2 v3 v4 v5 v6 h; rw [f_X9_through_40] at h; cases h
    | succ n40 ih40 =>
      have B91 : ∀ (v1 : Int32) (v2 : Int32) (v3 : Int32) (v4 : Int32) (v5 : Int32) (v6 : Int32), f_X9_through_91 N V (f_X9_through_40 N V n40) v1 v2 v3 v4 v5 v6 = some r → G 91 V [(0, .ref (ad 0)), (1, .int v1), (2, .int v2), (3, .int v3), (4, .int v4), (5, .int v5), (6, .int v6)] [] := by
        intro v1 v2 v3 v4 v5 v6 h
        rw [hG]
        intro H locs ls w hl
        rw [f_X9_through_91] at h
        obtain ⟨x31, ex31⟩ : ∃ y : Int32, y = v6 + (1 : Int32) := ⟨_, rfl⟩
        replace h := bdi h _ ex31
        refine lv_iinc (v := x31) (lv' := [(6, .int x31), (0, .ref (ad 0)), (1, .int v1), (2, .int v2), (3, .int v3), (4, .int v4), (5, .int v5)]) hx hb dX9_through_91 hl (k := 6) rfl (by rw [ex31]; rfl) (by decide) rfl (fun ls hl => ?_)
        refine lv_goto (tgt := 40) hx hb dX9_through_94 (by decide) ?_
        have g := ih40 v1 v2 v3 v4 v5 x31 h
        rw [hG] at g
        exact g H locs ls w (lv_sub hl [1, 2, 3, 4, 5, 6, 0] rfl)
      intro v1 v2 v3 v4 v5 v6 h
      rw [hG]
      intro H locs ls w hl
      rw [f_X9_through_40] at h
      refine lv_iload hx hb dX9_through_40 (lv_at hl 6 rfl) ?_
      refine lv_bipush (v := 32) hx hb dX9_through_42 (by decide) ?_
      refine lv_icmp_ge (tgt := 97) hx hb dX9_through_44 (by decide) (fun c26 => ?_) (fun c26 => ?_)
      · replace h := ifT h c26
        refine lv_iload_n hx hb dX9_through_97 rfl (lv_at hl 3 rfl) ?_
        refine lv_if_ne (tgt := 106) hx hb dX9_through_98 (by decide) (fun c27 => ?_) (fun c27 => ?_)
        · replace h := ifF h c27
          refine lv_iload hx hb dX9_through_106 (lv_at hl 5 rfl) ?_
          obtain rfl := Option.some.inj h
          exact m_ri X w hr hlocks dX9_through_108
        · replace h := ifT h c27
          refine lv_iload hx hb dX9_through_101 (lv_at hl 4 rfl) ?_
          refine lv_goto (tgt := 108) hx hb dX9_through_103 (by decide) ?_
          obtain rfl := Option.some.inj h
          exact m_ri X w hr hlocks dX9_through_108
      · replace h := ifF h c26
        refine lv_iload hx hb dX9_through_47 (lv_at hl 6 rfl) ?_
        refine lv_iload_n hx hb dX9_through_49 rfl (lv_at hl 1 rfl) ?_
        obtain ⟨r28, q29, h⟩ := ob1i h
        refine m_ci (m_rS (As := [.int v6, .int v1]) (rest := []) X w hl mi_X9_isIn ml_X9_119 (c_X9_isIn l D cy ad A Kc C0 N z V v6 v1 r28 q29) ⟨⟨rfl, rfl, Nat.le_of_ble_eq_true rfl, Nat.le_of_ble_eq_true rfl⟩, Nat.le_of_ble_eq_true rfl, Nat.le_of_ble_eq_true rfl⟩ rfl rfl (Nat.le_of_ble_eq_true rfl) dX9_through_50) w (fun H locs w => ?_)
        refine lv_if_eq (tgt := 91) hx hb dX9_through_53 (by decide) (fun c30 => ?_) (fun c30 => ?_)
        · replace h := ifT h c30
          have g := B91 v1 v2 v3 v4 v5 v6 h
          rw [hG] at g
          exact g H locs ls w (lv_sub hl [0, 1, 2, 3, 4, 5, 6] rfl)
        · replace h := ifF h c30
          refine lv_iload hx hb dX9_through_56 (lv_at hl 6 rfl) ?_
          refine lv_iload_n hx hb dX9_through_58 rfl (lv_at hl 2 rfl) ?_
          obtain ⟨r32, q33, h⟩ := ob1i h
          refine m_ci (m_rS (As := [.int v6, .int v2]) (rest := []) X w hl mi_X9_isIn ml_X9_119 (c_X9_isIn l D cy ad A Kc C0 N z V v6 v2 r32 q33) ⟨⟨rfl, rfl, Nat.le_of_ble_eq_true rfl, Nat.le_of_ble_eq_true rfl⟩, Nat.le_of_ble_eq_true rfl, Nat.le_of_ble_eq_true rfl⟩ rfl rfl (Nat.le_of_ble_eq_true rfl) dX9_through_59) w (fun H locs w => ?_)
          refine lv_if_ne (tgt := 91) hx hb dX9_through_62 (by decide) (fun c34 => ?_) (fun c34 => ?_)
          · replace h := ifF h c34
            have g := B91 v1 v2 v3 v4 v5 v6 h
            rw [hG] at g
            exact g H locs ls w (lv_sub hl [0, 1, 2, 3, 4, 5, 6] rfl)
          · replace h := ifT h c34
            refine lv_aload_n hx hb dX9_through_65 rfl (lv_at hl 0 rfl) ?_
            refine lv_iload hx hb dX9_through_66 (lv_at hl 6 rfl) ?_
            obtain ⟨r35, q36, h⟩ := ob1i h
            refine m_ci (m_rV (As := [.int v6]) (rest := []) X w hl mi_X9_outOf ml_X9_406 0 sm_n0 sm_k0 rfl (c_X9_outOf l D cy ad A Kc C0 N z V v6 r35 q36) ⟨⟨rfl, rfl, Nat.le_of_ble_eq_true rfl, Nat.le_of_ble_eq_true rfl⟩, Nat.le_of_ble_eq_true rfl, Nat.le_of_ble_eq_true rfl⟩ rfl rfl (Nat.le_of_ble_eq_true rfl) dX9_through_68) w (fun H locs w => ?_)
            refine lv_iload hx hb dX9_through_71 (lv_at hl 4 rfl) ?_
            refine lv_icmp_lt (tgt := 79) hx hb dX9_through_73 (by decide) (fun c37 => ?_) (fun c37 => ?_)
            · replace h := ifT h c37
              refine lv_aload_n hx hb dX9_through_79 rfl (lv_at hl 0 rfl) ?_
              refine lv_iload hx hb dX9_through_80 (lv_at hl 6 rfl) ?_
              obtain ⟨r38, q39, h⟩ := ob1i h
              refine m_ci (m_rV (As := [.int v6]) (rest := []) X w hl mi_X9_outOf ml_X9_406 0 sm_n0 sm_k0 rfl (c_X9_outOf l D cy ad A Kc C0 N z V v6 r38 q39) ⟨⟨rfl, rfl, Nat.le_of_ble_eq_true rfl, Nat.le_of_ble_eq_true rfl⟩, Nat.le_of_ble_eq_true rfl, Nat.le_of_ble_eq_true rfl⟩ rfl rfl (Nat.le_of_ble_eq_true rfl) dX9_through_82) w (fun H locs w => ?_)
              refine lv_istore (lv' := [(4, .int r38), (0, .ref (ad 0)), (1, .int v1), (2, .int v2), (3, .int v3), (5, .int v5), (6, .int v6)]) hx hb dX9_through_85 hl (by decide) rfl (fun ls hl => ?_)
              refine lv_iload hx hb dX9_through_87 (lv_at hl 6 rfl) ?_
              refine lv_istore (lv' := [(5, .int v6), (4, .int r38), (0, .ref (ad 0)), (1, .int v1), (2, .int v2), (3, .int v3), (6, .int v6)]) hx hb dX9_through_89 hl (by decide) rfl (fun ls hl => ?_)
              have g := B91 v1 v2 v3 r38 v6 v6 h
              rw [hG] at g
              exact g H locs ls w (lv_sub hl [2, 3, 4, 5, 1, 0, 6] rfl)
            · replace h := ifF h c37
              refine lv_goto (tgt := 91) hx hb dX9_through_76 (by decide) ?_
              have g := B91 v1 v2 v3 v4 v5 v6 h
              rw [hG] at g
              exact g H locs ls w (lv_sub hl [0, 1, 2, 3, 4, 5, 6] rfl)
  rw [f_X9_through] at h
  refine lv_iload_n hx hb dX9_through_0 rfl (lv_at hl 1 rfl) ?_
  obtain ⟨r16, q17, h⟩ := ob1i h
  refine m_ci (m_rS (As := [.int a1]) (rest := []) X w hl mi_X9_isFive ml_X9_129 (c_X9_isFive l D cy ad A Kc C0 N z V a1 r16 q17) ⟨⟨rfl, rfl, Nat.le_of_ble_eq_true rfl, Nat.le_of_ble_eq_true rfl⟩, Nat.le_of_ble_eq_true rfl, Nat.le_of_ble_eq_true rfl⟩ rfl rfl (Nat.le_of_ble_eq_true rfl) dX9_through_1) w (fun H locs w => ?_)
  refine lv_if_eq (tgt := 28) hx hb dX9_through_4 (by decide) (fun c18 => ?_) (fun c18 => ?_)
  · replace h := ifT h c18
    refine lv_iconst (v := (-1)) hx hb dX9_through_28 (by decide) ?_
    obtain rfl := Option.some.inj h
    exact m_ri X w hr hlocks dX9_through_29
  · replace h := ifF h c18
    refine lv_iload_n hx hb dX9_through_7 rfl (lv_at hl 2 rfl) ?_
    obtain ⟨r19, q20, h⟩ := ob1i h
    refine m_ci (m_rS (As := [.int a2]) (rest := []) X w hl mi_X9_isFive ml_X9_129 (c_X9_isFive l D cy ad A Kc C0 N z V a2 r19 q20) ⟨⟨rfl, rfl, Nat.le_of_ble_eq_true rfl, Nat.le_of_ble_eq_true rfl⟩, Nat.le_of_ble_eq_true rfl, Nat.le_of_ble_eq_true rfl⟩ rfl rfl (Nat.le_of_ble_eq_true rfl) dX9_through_8) w (fun H locs w => ?_)
    refine lv_if_eq (tgt := 28) hx hb dX9_through_11 (by decide) (fun c21 => ?_) (fun c21 => ?_)
    · replace h := ifT h c21
      refine lv_iconst (v := (-1)) hx hb dX9_through_28 (by decide) ?_
      obtain rfl := Option.some.inj h
      exact m_ri X w hr hlocks dX9_through_29
    · replace h := ifF h c21
      refine lv_iload_n hx hb dX9_through_14 rfl (lv_at hl 1 rfl) ?_
      refine lv_iload_n hx hb dX9_through_15 rfl (lv_at hl 2 rfl) ?_
      refine lv_icmp_eq (tgt := 28) hx hb dX9_through_16 (by decide) (fun c22 => ?_) (fun c22 => ?_)
      · replace h := ifT h c22
        refine lv_iconst (v := (-1)) hx hb dX9_through_28 (by decide) ?_
        obtain rfl := Option.some.inj h
        exact m_ri X w hr hlocks dX9_through_29
      · replace h := ifF h c22
        refine lv_iload_n hx hb dX9_through_19 rfl (lv_at hl 3 rfl) ?_
        refine lv_iconst (v := 0) hx hb dX9_through_20 (by decide) ?_
        refine lv_iconst (v := 1) hx hb dX9_through_21 (by decide) ?_
        obtain ⟨r23, q24, h⟩ := ob1i h
        refine m_ci (m_rS (As := [.int a3, .int (0 : Int32), .int (1 : Int32)]) (rest := []) X w hl mi_X9_lies ml_X9_18 (c_X9_lies l D cy ad A Kc C0 N z V a3 (0 : Int32) (1 : Int32) r23 q24) ⟨⟨rfl, rfl, Nat.le_of_ble_eq_true rfl, Nat.le_of_ble_eq_true rfl⟩, Nat.le_of_ble_eq_true rfl, Nat.le_of_ble_eq_true rfl⟩ rfl rfl (Nat.le_of_ble_eq_true rfl) dX9_through_22) w (fun H locs w => ?_)
        refine lv_if_ne (tgt := 30) hx hb dX9_through_25 (by decide) (fun c25 => ?_) (fun c25 => ?_)
        · replace h := ifF h c25
          refine lv_ldc (v := 1000000) hx hb hown (hts _ kc_X9_170) dX9_through_30 ?_
          refine lv_istore (lv' := [(4, .int (1000000 : Int32)), (0, .ref (ad 0)), (1, .int a1), (2, .int a2), (3, .int a3)]) hx hb dX9_through_32 hl (by decide) rfl (fun ls hl => ?_)
          refine lv_iconst (v := (-1)) hx hb dX9_through_34 (by decide) ?_
          refine lv_istore (lv' := [(5, .int (-1 : Int32)), (4, .int (1000000 : Int32)), (0, .ref (ad 0)), (1, .int a1), (2, .int a2), (3, .int a3)]) hx hb dX9_through_35 hl (by decide) rfl (fun ls hl => ?_)
          refine lv_iconst (v := 0) hx hb dX9_through_37 (by decide) ?_
          refine lv_istore (lv' := [(6, .int (0 : Int32)), (5, .int (-1 : Int32)), (4, .int (1000000 : Int32)), (0, .ref (ad 0)), (1, .int a1), (2, .int a2), (3, .int a3)]) hx hb dX9_through_38 hl (by decide) rfl (fun ls hl => ?_)
          have g := L40 N a1 a2 a3 (1000000 : Int32) (-1 : Int32) (0 : Int32) h
          rw [hG] at g
          exact g H locs ls w (lv_sub hl [3, 4, 5, 6, 2, 1, 0] rfl)
        · replace h := ifT h c25
          refine lv_iconst (v := (-1)) hx hb dX9_through_28 (by decide) ?_
          obtain rfl := Option.some.inj h
          exact m_ri X w hr hlocks dX9_through_29
def f_X9_moreOut (N : Nat) (V : Vt) (a1 : Int32) : Option Int32 := ob1 (f_X9_outOf N V a1) (fun r5 => ob1 (f_X9_outOf N V ((31 : Int32) ^^^ a1)) (fun r7 => some (r5 - r7)))
set_option maxHeartbeats 4000000 in
set_option maxRecDepth 100000 in
theorem c_X9_moreOut (l : Launch) (D : va_G) (cy : Nat → ClassId) (ad : Nat → Nat) (A : Nat → Prop) (Kc : State → Prop) (C0 : Cx ad A Kc) (N : Nat) (z : Nat) (V : Vt) (a1 : Int32) (r : Int32) (h : f_X9_moreOut N V a1 = some r) : Met l yX9_moreOut (mw yX9_moreOut cX9_moreOut 2 (some .int)) { frames := 2, cells := 0, slots := 0, locals := 45 } (PreM D cy ad Kc (SM z) V [.ref (ad 0), .int a1]) (QI D cy ad A r (SM z) V) 0 0 A := by
  refine ct_go C0 (own := RX9) rfl (by decide) rfl ?_
  intro p e s m below meth c ls H locs X hr hlocks hnm hl w
  have hx := X.1.1
  have hb := X.1.2.1
  have hown := X.2.1
  have hts := X.2.2.1
  have hl : lv_has ls 2 [(0, .ref (ad 0)), (1, .int a1)] := hl
  rw [f_X9_moreOut] at h
  refine lv_aload_n hx hb dX9_moreOut_0 rfl (lv_at hl 0 rfl) ?_
  refine lv_iload_n hx hb dX9_moreOut_1 rfl (lv_at hl 1 rfl) ?_
  obtain ⟨r5, q6, h⟩ := ob1i h
  refine m_ci (m_rV (As := [.int a1]) (rest := []) X w hl mi_X9_outOf ml_X9_406 0 sm_n0 sm_k0 rfl (c_X9_outOf l D cy ad A Kc C0 N z V a1 r5 q6) ⟨⟨rfl, rfl, Nat.le_of_ble_eq_true rfl, Nat.le_of_ble_eq_true rfl⟩, Nat.le_of_ble_eq_true rfl, Nat.le_of_ble_eq_true rfl⟩ rfl rfl (Nat.le_of_ble_eq_true rfl) dX9_moreOut_2) w (fun H locs w => ?_)
  refine lv_aload_n hx hb dX9_moreOut_5 rfl (lv_at hl 0 rfl) ?_
  refine lv_bipush (v := 31) hx hb dX9_moreOut_6 (by decide) ?_
  refine lv_iload_n hx hb dX9_moreOut_8 rfl (lv_at hl 1 rfl) ?_
  refine lv_ixor hx hb dX9_moreOut_9 ?_
  obtain ⟨r7, q8, h⟩ := ob1i h
  refine m_ci (m_rV (As := [.int ((31 : Int32) ^^^ a1)]) (rest := [.int r5]) X w hl mi_X9_outOf ml_X9_406 0 sm_n0 sm_k0 rfl (c_X9_outOf l D cy ad A Kc C0 N z V ((31 : Int32) ^^^ a1) r7 q8) ⟨⟨rfl, rfl, Nat.le_of_ble_eq_true rfl, Nat.le_of_ble_eq_true rfl⟩, Nat.le_of_ble_eq_true rfl, Nat.le_of_ble_eq_true rfl⟩ rfl rfl (Nat.le_of_ble_eq_true rfl) dX9_moreOut_10) w (fun H locs w => ?_)
  refine lv_isub hx hb dX9_moreOut_13 ?_
  obtain rfl := Option.some.inj h
  exact m_ri X w hr hlocks dX9_moreOut_14
def f_X9_drawn (N : Nat) (V : Vt) (a1 : Int32) (a2 : Int32) : Option Int32 := if (V.1 0 48) = (-1 : Int32) then some (-1 : Int32) else ob1 (f_X9_lies N a2 (0 : Int32) (1 : Int32)) (fun r10 => if r10 = 0 then some (-1 : Int32) else if a2 = 0 then ob1 (f_X9_isCell N a1) (fun r18 => if r18 = 0 then some (-1 : Int32) else ck ((0 : Int32) + a1) 32 (some (V.2.1 24 ((0 : Int32) + a1).toNatClampNeg))) else ob1 (f_X9_lies N a1 (0 : Int32) ((V.1 0 48) - (1 : Int32))) (fun r14 => if r14 = 0 then some (-1 : Int32) else ck ((25 : Int32) + a1) 32 (some (V.2.1 24 ((25 : Int32) + a1).toNatClampNeg))))
set_option maxHeartbeats 4000000 in
set_option maxRecDepth 100000 in
theorem c_X9_drawn (l : Launch) (D : va_G) (cy : Nat → ClassId) (ad : Nat → Nat) (A : Nat → Prop) (Kc : State → Prop) (C0 : Cx ad A Kc) (N : Nat) (z : Nat) (V : Vt) (a1 : Int32) (a2 : Int32) (r : Int32) (h : f_X9_drawn N V a1 a2 = some r) : Met l yX9_drawn (mw yX9_drawn cX9_drawn 3 (some .int)) { frames := 2, cells := 0, slots := 0, locals := 42 } (PreM D cy ad Kc (SM z) V [.ref (ad 0), .int a1, .int a2]) (QI D cy ad A r (SM z) V) 0 0 A := by
  refine ct_go C0 (own := RX9) rfl (by decide) rfl ?_
  intro p e s m below meth c ls H locs X hr hlocks hnm hl w
  have hx := X.1.1
  have hb := X.1.2.1
  have hown := X.2.1
  have hts := X.2.2.1
  have hl : lv_has ls 3 [(0, .ref (ad 0)), (1, .int a1), (2, .int a2)] := hl
  rw [f_X9_drawn] at h
  refine lv_aload_n hx hb dX9_drawn_0 rfl (lv_at hl 0 rfl) ?_
  refine m_get X w 0 sm_n0 sm_k0 ci9 48 (by decide) (fvI sm_k0 rfl) rfl fl_X9_106 dX9_drawn_1 ?_
  refine lv_iconst (v := (-1)) hx hb dX9_drawn_4 (by decide) ?_
  refine lv_icmp_eq (tgt := 17) hx hb dX9_drawn_5 (by decide) (fun c9 => ?_) (fun c9 => ?_)
  · replace h := ifT h c9
    refine lv_iconst (v := (-1)) hx hb dX9_drawn_17 (by decide) ?_
    obtain rfl := Option.some.inj h
    exact m_ri X w hr hlocks dX9_drawn_18
  · replace h := ifF h c9
    refine lv_iload_n hx hb dX9_drawn_8 rfl (lv_at hl 2 rfl) ?_
    refine lv_iconst (v := 0) hx hb dX9_drawn_9 (by decide) ?_
    refine lv_iconst (v := 1) hx hb dX9_drawn_10 (by decide) ?_
    obtain ⟨r10, q11, h⟩ := ob1i h
    refine m_ci (m_rS (As := [.int a2, .int (0 : Int32), .int (1 : Int32)]) (rest := []) X w hl mi_X9_lies ml_X9_18 (c_X9_lies l D cy ad A Kc C0 N z V a2 (0 : Int32) (1 : Int32) r10 q11) ⟨⟨rfl, rfl, Nat.le_of_ble_eq_true rfl, Nat.le_of_ble_eq_true rfl⟩, Nat.le_of_ble_eq_true rfl, Nat.le_of_ble_eq_true rfl⟩ rfl rfl (Nat.le_of_ble_eq_true rfl) dX9_drawn_11) w (fun H locs w => ?_)
    refine lv_if_ne (tgt := 19) hx hb dX9_drawn_14 (by decide) (fun c12 => ?_) (fun c12 => ?_)
    · replace h := ifF h c12
      refine lv_iload_n hx hb dX9_drawn_19 rfl (lv_at hl 2 rfl) ?_
      refine lv_if_ne (tgt := 43) hx hb dX9_drawn_20 (by decide) (fun c13 => ?_) (fun c13 => ?_)
      · replace h := ifF h c13
        refine lv_iload_n hx hb dX9_drawn_43 rfl (lv_at hl 1 rfl) ?_
        refine lv_iconst (v := 0) hx hb dX9_drawn_44 (by decide) ?_
        refine lv_aload_n hx hb dX9_drawn_45 rfl (lv_at hl 0 rfl) ?_
        refine m_get X w 0 sm_n0 sm_k0 ci9 48 (by decide) (fvI sm_k0 rfl) rfl fl_X9_106 dX9_drawn_46 ?_
        refine lv_iconst (v := 1) hx hb dX9_drawn_49 (by decide) ?_
        refine lv_isub hx hb dX9_drawn_50 ?_
        obtain ⟨r14, q15, h⟩ := ob1i h
        refine m_ci (m_rS (As := [.int a1, .int (0 : Int32), .int ((V.1 0 48) - (1 : Int32))]) (rest := []) X w hl mi_X9_lies ml_X9_18 (c_X9_lies l D cy ad A Kc C0 N z V a1 (0 : Int32) ((V.1 0 48) - (1 : Int32)) r14 q15) ⟨⟨rfl, rfl, Nat.le_of_ble_eq_true rfl, Nat.le_of_ble_eq_true rfl⟩, Nat.le_of_ble_eq_true rfl, Nat.le_of_ble_eq_true rfl⟩ rfl rfl (Nat.le_of_ble_eq_true rfl) dX9_drawn_51) w (fun H locs w => ?_)
        refine lv_if_eq (tgt := 69) hx hb dX9_drawn_54 (by decide) (fun c16 => ?_) (fun c16 => ?_)
        · replace h := ifT h c16
          refine lv_iconst (v := (-1)) hx hb dX9_drawn_69 (by decide) ?_
          obtain rfl := Option.some.inj h
          exact m_ri X w hr hlocks dX9_drawn_70
        · replace h := ifF h c16
          refine lv_aload_n hx hb dX9_drawn_57 rfl (lv_at hl 0 rfl) ?_
          refine m_get X w 0 sm_n0 sm_k0 ci9 47 (by decide) (fvR sm_k0 rfl sm_p47) rfl fl_X9_103 dX9_drawn_58 ?_
          refine lv_bipush (v := 25) hx hb dX9_drawn_61 (by decide) ?_
          refine lv_iload_n hx hb dX9_drawn_63 rfl (lv_at hl 1 rfl) ?_
          refine lv_iadd hx hb dX9_drawn_64 ?_
          obtain ⟨g17, h⟩ := cki h
          refine m_iald X w 24 sm_n24 sm_k24 sm_z24 g17 dX9_drawn_65 ?_
          refine lv_goto (tgt := 70) hx hb dX9_drawn_66 (by decide) ?_
          obtain rfl := Option.some.inj h
          exact m_ri X w hr hlocks dX9_drawn_70
      · replace h := ifT h c13
        refine lv_iload_n hx hb dX9_drawn_23 rfl (lv_at hl 1 rfl) ?_
        obtain ⟨r18, q19, h⟩ := ob1i h
        refine m_ci (m_rS (As := [.int a1]) (rest := []) X w hl mi_X9_isCell ml_X9_115 (c_X9_isCell l D cy ad A Kc C0 N z V a1 r18 q19) ⟨⟨rfl, rfl, Nat.le_of_ble_eq_true rfl, Nat.le_of_ble_eq_true rfl⟩, Nat.le_of_ble_eq_true rfl, Nat.le_of_ble_eq_true rfl⟩ rfl rfl (Nat.le_of_ble_eq_true rfl) dX9_drawn_24) w (fun H locs w => ?_)
        refine lv_if_eq (tgt := 41) hx hb dX9_drawn_27 (by decide) (fun c20 => ?_) (fun c20 => ?_)
        · replace h := ifT h c20
          refine lv_iconst (v := (-1)) hx hb dX9_drawn_41 (by decide) ?_
          obtain rfl := Option.some.inj h
          exact m_ri X w hr hlocks dX9_drawn_42
        · replace h := ifF h c20
          refine lv_aload_n hx hb dX9_drawn_30 rfl (lv_at hl 0 rfl) ?_
          refine m_get X w 0 sm_n0 sm_k0 ci9 47 (by decide) (fvR sm_k0 rfl sm_p47) rfl fl_X9_103 dX9_drawn_31 ?_
          refine lv_iconst (v := 0) hx hb dX9_drawn_34 (by decide) ?_
          refine lv_iload_n hx hb dX9_drawn_35 rfl (lv_at hl 1 rfl) ?_
          refine lv_iadd hx hb dX9_drawn_36 ?_
          obtain ⟨g21, h⟩ := cki h
          refine m_iald X w 24 sm_n24 sm_k24 sm_z24 g21 dX9_drawn_37 ?_
          refine lv_goto (tgt := 42) hx hb dX9_drawn_38 (by decide) ?_
          obtain rfl := Option.some.inj h
          exact m_ri X w hr hlocks dX9_drawn_42
    · replace h := ifT h c12
      refine lv_iconst (v := (-1)) hx hb dX9_drawn_17 (by decide) ?_
      obtain rfl := Option.some.inj h
      exact m_ri X w hr hlocks dX9_drawn_18
def f_X9_shift (N : Nat) (V : Vt) (a1 : Int32) (a2 : Int32) (a3 : Int32) : Option (Int32 × Vt) := ob (f_X9_shiftsKept N V a1 a2 a3) (fun r7 V9 => ob (f_X9_goodOr N V9 r7) (fun r10 V12 => some (r10, V12)))
set_option maxHeartbeats 4000000 in
set_option maxRecDepth 100000 in
theorem c_X9_shift (l : Launch) (D : va_G) (cy : Nat → ClassId) (ad : Nat → Nat) (A : Nat → Prop) (Kc : State → Prop) (C0 : Cx ad A Kc) (N : Nat) (z : Nat) (V : Vt) (a1 : Int32) (a2 : Int32) (a3 : Int32) (r : Int32) (V' : Vt) (h : f_X9_shift N V a1 a2 a3 = some (r, V')) : Met l yX9_shift (mw yX9_shift cX9_shift 4 (some .int)) { frames := 3, cells := 0, slots := 0, locals := 65 } (PreM D cy ad Kc (SM z) V [.ref (ad 0), .int a1, .int a2, .int a3]) (QI D cy ad A r (SM z) V') 0 0 A := by
  refine ct_go C0 (own := RX9) rfl (by decide) rfl ?_
  intro p e s m below meth c ls H locs X hr hlocks hnm hl w
  have hx := X.1.1
  have hb := X.1.2.1
  have hown := X.2.1
  have hts := X.2.2.1
  have hl : lv_has ls 4 [(0, .ref (ad 0)), (1, .int a1), (2, .int a2), (3, .int a3)] := hl
  rw [f_X9_shift] at h
  refine lv_aload_n hx hb dX9_shift_0 rfl (lv_at hl 0 rfl) ?_
  refine lv_aload_n hx hb dX9_shift_1 rfl (lv_at hl 0 rfl) ?_
  refine lv_iload_n hx hb dX9_shift_2 rfl (lv_at hl 1 rfl) ?_
  refine lv_iload_n hx hb dX9_shift_3 rfl (lv_at hl 2 rfl) ?_
  refine lv_iload_n hx hb dX9_shift_4 rfl (lv_at hl 3 rfl) ?_
  obtain ⟨r7, V9, q8, h⟩ := obi h
  refine m_ci (m_rV (As := [.int a1, .int a2, .int a3]) (rest := [.ref (ad 0)]) X w hl mi_X9_shiftsKept ml_X9_338 0 sm_n0 sm_k0 rfl (c_X9_shiftsKept l D cy ad A Kc C0 N z V a1 a2 a3 r7 V9 q8) ⟨⟨rfl, rfl, Nat.le_of_ble_eq_true rfl, Nat.le_of_ble_eq_true rfl⟩, Nat.le_of_ble_eq_true rfl, Nat.le_of_ble_eq_true rfl⟩ rfl rfl (Nat.le_of_ble_eq_true rfl) dX9_shift_5) w (fun H locs w => ?_)
  obtain ⟨r10, V12, q11, h⟩ := obi h
  refine m_ci (m_rV (As := [.int r7]) (rest := []) X w hl mi_X9_goodOr ml_X9_335 0 sm_n0 sm_k0 rfl (c_X9_goodOr l D cy ad A Kc C0 N z V9 r7 r10 V12 q11) ⟨⟨rfl, rfl, Nat.le_of_ble_eq_true rfl, Nat.le_of_ble_eq_true rfl⟩, Nat.le_of_ble_eq_true rfl, Nat.le_of_ble_eq_true rfl⟩ rfl rfl (Nat.le_of_ble_eq_true rfl) dX9_shift_8) w (fun H locs w => ?_)
  obtain ⟨rfl, rfl⟩ := reti h
  exact m_ri X w hr hlocks dX9_shift_11
def f_X9_fence (N : Nat) (V : Vt) (a1 : Int32) : Option (Int32 × Vt) := ob (f_X9_fencesKept N V a1) (fun r7 V9 => ob (f_X9_goodOr N V9 r7) (fun r10 V12 => some (r10, V12)))
set_option maxHeartbeats 4000000 in
set_option maxRecDepth 100000 in
theorem c_X9_fence (l : Launch) (D : va_G) (cy : Nat → ClassId) (ad : Nat → Nat) (A : Nat → Prop) (Kc : State → Prop) (C0 : Cx ad A Kc) (N : Nat) (z : Nat) (V : Vt) (a1 : Int32) (r : Int32) (V' : Vt) (h : f_X9_fence N V a1 = some (r, V')) : Met l yX9_fence (mw yX9_fence cX9_fence 2 (some .int)) { frames := 3, cells := 0, slots := 0, locals := 63 } (PreM D cy ad Kc (SM z) V [.ref (ad 0), .int a1]) (QI D cy ad A r (SM z) V') 0 0 A := by
  refine ct_go C0 (own := RX9) rfl (by decide) rfl ?_
  intro p e s m below meth c ls H locs X hr hlocks hnm hl w
  have hx := X.1.1
  have hb := X.1.2.1
  have hown := X.2.1
  have hts := X.2.2.1
  have hl : lv_has ls 2 [(0, .ref (ad 0)), (1, .int a1)] := hl
  rw [f_X9_fence] at h
  refine lv_aload_n hx hb dX9_fence_0 rfl (lv_at hl 0 rfl) ?_
  refine lv_aload_n hx hb dX9_fence_1 rfl (lv_at hl 0 rfl) ?_
  refine lv_iload_n hx hb dX9_fence_2 rfl (lv_at hl 1 rfl) ?_
  obtain ⟨r7, V9, q8, h⟩ := obi h
  refine m_ci (m_rV (As := [.int a1]) (rest := [.ref (ad 0)]) X w hl mi_X9_fencesKept ml_X9_342 0 sm_n0 sm_k0 rfl (c_X9_fencesKept l D cy ad A Kc C0 N z V a1 r7 V9 q8) ⟨⟨rfl, rfl, Nat.le_of_ble_eq_true rfl, Nat.le_of_ble_eq_true rfl⟩, Nat.le_of_ble_eq_true rfl, Nat.le_of_ble_eq_true rfl⟩ rfl rfl (Nat.le_of_ble_eq_true rfl) dX9_fence_3) w (fun H locs w => ?_)
  obtain ⟨r10, V12, q11, h⟩ := obi h
  refine m_ci (m_rV (As := [.int r7]) (rest := []) X w hl mi_X9_goodOr ml_X9_335 0 sm_n0 sm_k0 rfl (c_X9_goodOr l D cy ad A Kc C0 N z V9 r7 r10 V12 q11) ⟨⟨rfl, rfl, Nat.le_of_ble_eq_true rfl, Nat.le_of_ble_eq_true rfl⟩, Nat.le_of_ble_eq_true rfl, Nat.le_of_ble_eq_true rfl⟩ rfl rfl (Nat.le_of_ble_eq_true rfl) dX9_fence_6) w (fun H locs w => ?_)
  obtain ⟨rfl, rfl⟩ := reti h
  exact m_ri X w hr hlocks dX9_fence_9
def f_X9_settled_128 (N : Nat) (K37 : Vt → Int32 → Int32 → Option (Int32 × Vt)) (V : Vt) (v1 : Int32) (v2 : Int32) : Option (Int32 × Vt) := bd (v2 + (1 : Int32)) (fun x31 => K37 V v1 x31)
def f_X9_settled_119 (N : Nat) (K70 : Vt → Int32 → Int32 → Int32 → Option (Int32 × Vt)) (V : Vt) (v1 : Int32) (v2 : Int32) (v3 : Int32) : Option (Int32 × Vt) := bd ((v3 - (1 : Int32)) &&& v2) (fun x35 => K70 V v1 v2 x35)
def f_X9_settled_70 (N : Nat) (K37 : Vt → Int32 → Int32 → Option (Int32 × Vt)) : Nat → Vt → Int32 → Int32 → Int32 → Option (Int32 × Vt)
  | 0, _, _, _, _ => none
  | n + 1, V, v1, v2, v3 => if v3 ≤ 0 then f_X9_settled_128 N K37 V v1 v2 else ob1 (f_X9_moreOut N V v3) (fun r32 => if r32 = 0 then ck (v2 ^^^ v3) 32 (if (V.2.1 21 (v2 ^^^ v3).toNatClampNeg) = (-1 : Int32) then f_X9_settled_119 N (f_X9_settled_70 N K37 n) V v1 v2 v3 else ck v2 32 (ck (v2 ^^^ v3) 32 (ob1 (f_X9_greater N (V.2.1 21 v2.toNatClampNeg) ((V.2.1 21 (v2 ^^^ v3).toNatClampNeg) + (1 : Int32))) (fun r40 => ck v2 32 (bd (sA V 21 v2.toNatClampNeg r40) (fun V43 => f_X9_settled_119 N (f_X9_settled_70 N K37 n) V43 v1 v2 v3)))))) else f_X9_settled_119 N (f_X9_settled_70 N K37 n) V v1 v2 v3)
def f_X9_settled_67 (N : Nat) (K37 : Vt → Int32 → Int32 → Option (Int32 × Vt)) (V : Vt) (v1 : Int32) (v2 : Int32) (s0 : Int32) (s1 : Int32) : Option (Int32 × Vt) := ck s1 32 (bd (sA V 21 s1.toNatClampNeg s0) (fun V29 => f_X9_settled_70 N K37 N V29 v1 v2 v2))
def f_X9_settled_37 (N : Nat) : Nat → Vt → Int32 → Int32 → Option (Int32 × Vt)
  | 0, _, _, _ => none
  | n + 1, V, v1, v2 => if v1 < v2 then ob1 (f_X9_ones N v1) (fun r23 => ck v1 32 (some (r23 - (V.2.1 21 v1.toNatClampNeg), V))) else if (v2 &&& (v1 ^^^ (-1 : Int32))) = 0 then if v2 = 0 then f_X9_settled_67 N (f_X9_settled_37 N n) V v1 v2 (0 : Int32) v2 else f_X9_settled_67 N (f_X9_settled_37 N n) V v1 v2 (-1 : Int32) v2 else f_X9_settled_128 N (f_X9_settled_37 N n) V v1 v2
def f_X9_settled_27 (N : Nat) (K4 : Vt → Int32 → Int32 → Option (Int32 × Vt)) (V : Vt) (v2 : Int32) (s0 : Int32) (s1 : Int32) : Option (Int32 × Vt) := bd (s1 ||| s0) (fun x47 => bd (v2 + (1 : Int32)) (fun x48 => K4 V x47 x48))
def f_X9_settled_4 (N : Nat) : Nat → Vt → Int32 → Int32 → Option (Int32 × Vt)
  | 0, _, _, _ => none
  | n + 1, V, v1, v2 => if (5 : Int32) ≤ v2 then f_X9_settled_37 N N V v1 (0 : Int32) else ob1 (f_X9_moreOut N V ((1 : Int32) <<< (v2 &&& 31))) (fun r44 => if r44 = 0 then f_X9_settled_27 N (f_X9_settled_4 N n) V v2 (0 : Int32) v1 else f_X9_settled_27 N (f_X9_settled_4 N n) V v2 ((1 : Int32) <<< (v2 &&& 31)) v1)
def f_X9_settled (N : Nat) (V : Vt) : Option (Int32 × Vt) := f_X9_settled_4 N N V (0 : Int32) (0 : Int32)
set_option maxHeartbeats 4000000 in
set_option maxRecDepth 100000 in
theorem c_X9_settled (l : Launch) (D : va_G) (cy : Nat → ClassId) (ad : Nat → Nat) (A : Nat → Prop) (Kc : State → Prop) (C0 : Cx ad A Kc) (N : Nat) (z : Nat) (V : Vt) (r : Int32) (V' : Vt) (h : f_X9_settled N V = some (r, V')) : Met l yX9_settled (mw yX9_settled cX9_settled 4 (some .int)) { frames := 3, cells := 0, slots := 0, locals := 66 } (PreM D cy ad Kc (SM z) V [.ref (ad 0)]) (QI D cy ad A r (SM z) V') 0 0 A := by
  refine ct_go C0 (own := RX9) rfl (by decide) rfl ?_
  intro p e s m below meth c ls H locs X hr hlocks hnm hl w
  have hx := X.1.1
  have hb := X.1.2.1
  have hown := X.2.1
  have hts := X.2.2.1
  have hl : lv_has ls 4 [(0, .ref (ad 0))] := hl
  obtain ⟨G, hG⟩ : ∃ G : Nat → Vt → List (Nat × Value) → List Value → Prop, G = fun pc V lv st => ∀ (H : Heap) (locs : List Loc) (ls : Array Slot), Wd D cy ad A s.heap (SM z) V H locs → lv_has ls 4 lv → W p l e { frames := 3, cells := 0, slots := 0, locals := 66 } s m ([.ref (ad 0)] : List Value).toArray below meth c H locs 0 0 (MQ below (QI D cy ad A r (SM z) V') ([.ref (ad 0)] : List Value).toArray s 0 0 A) (F0 m pc ls st) := ⟨_, rfl⟩
  have L37 : ∀ (n37 : Nat) (V : Vt) (v1 : Int32) (v2 : Int32), f_X9_settled_37 N n37 V v1 v2 = some (r, V') → G 37 V [(0, .ref (ad 0)), (1, .int v1), (2, .int v2)] [] := by
    intro n37
    induction n37 with
    | zero => intro V v1 v2 h; rw [f_X9_settled_37] at h; cases h
    | succ n37 ih37 =>
      have B128 : ∀ (V : Vt) (v1 : Int32) (v2 : Int32), f_X9_settled_128 N (f_X9_settled_37 N n37) V v1 v2 = some (r, V') → G 128 V [(0, .ref (ad 0)), (1, .int v1), (2, .int v2)] [] := by
        intro V v1 v2 h
        rw [hG]
        intro H locs ls w hl
        rw [f_X9_settled_128] at h
        obtain ⟨x31, ex31⟩ : ∃ y : Int32, y = v2 + (1 : Int32) := ⟨_, rfl⟩
        replace h := bdi h _ ex31
        refine lv_iinc (v := x31) (lv' := [(2, .int x31), (0, .ref (ad 0)), (1, .int v1)]) hx hb dX9_settled_128 hl (k := 2) rfl (by rw [ex31]; rfl) (by decide) rfl (fun ls hl => ?_)
        refine lv_goto (tgt := 37) hx hb dX9_settled_131 (by decide) ?_
        have g := ih37 V v1 x31 h
        rw [hG] at g
        exact g H locs ls w (lv_sub hl [1, 2, 0] rfl)
      have L70 : ∀ (n70 : Nat) (V : Vt) (v1 : Int32) (v2 : Int32) (v3 : Int32), f_X9_settled_70 N (f_X9_settled_37 N n37) n70 V v1 v2 v3 = some (r, V') → G 70 V [(0, .ref (ad 0)), (1, .int v1), (2, .int v2), (3, .int v3)] [] := by
        intro n70
        induction n70 with
        | zero => intro V v1 v2 v3 h; rw [f_X9_settled_70] at h; cases h
        | succ n70 ih70 =>
          have B119 : ∀ (V : Vt) (v1 : Int32) (v2 : Int32) (v3 : Int32), f_X9_settled_119 N (f_X9_settled_70 N (f_X9_settled_37 N n37) n70) V v1 v2 v3 = some (r, V') → G 119 V [(0, .ref (ad 0)), (1, .int v1), (2, .int v2), (3, .int v3)] [] := by
            intro V v1 v2 v3 h
            rw [hG]
            intro H locs ls w hl
            rw [f_X9_settled_119] at h
            refine lv_iload_n hx hb dX9_settled_119 rfl (lv_at hl 3 rfl) ?_
            refine lv_iconst (v := 1) hx hb dX9_settled_120 (by decide) ?_
            refine lv_isub hx hb dX9_settled_121 ?_
            refine lv_iload_n hx hb dX9_settled_122 rfl (lv_at hl 2 rfl) ?_
            refine lv_iand hx hb dX9_settled_123 ?_
            refine lv_topi (fun x35 ex35 => ?_)
            replace h := bdi h _ ex35
            refine lv_istore_n (lv' := [(3, .int x35), (0, .ref (ad 0)), (1, .int v1), (2, .int v2)]) hx hb dX9_settled_124 rfl hl (by decide) rfl (fun ls hl => ?_)
            refine lv_goto (tgt := 70) hx hb dX9_settled_125 (by decide) ?_
            have g := ih70 V v1 v2 x35 h
            rw [hG] at g
            exact g H locs ls w (lv_sub hl [1, 2, 3, 0] rfl)
          intro V v1 v2 v3 h
          rw [hG]
          intro H locs ls w hl
          rw [f_X9_settled_70] at h
          refine lv_iload_n hx hb dX9_settled_70 rfl (lv_at hl 3 rfl) ?_
          refine lv_if_le (tgt := 128) hx hb dX9_settled_71 (by decide) (fun c30 => ?_) (fun c30 => ?_)
          · replace h := ifT h c30
            have g := B128 V v1 v2 h
            rw [hG] at g
            exact g H locs ls w (lv_sub hl [0, 1, 2] rfl)
          · replace h := ifF h c30
            refine lv_aload_n hx hb dX9_settled_74 rfl (lv_at hl 0 rfl) ?_
            refine lv_iload_n hx hb dX9_settled_75 rfl (lv_at hl 3 rfl) ?_
            obtain ⟨r32, q33, h⟩ := ob1i h
            refine m_ci (m_rV (As := [.int v3]) (rest := []) X w hl mi_X9_moreOut ml_X9_409 0 sm_n0 sm_k0 rfl (c_X9_moreOut l D cy ad A Kc C0 N z V v3 r32 q33) ⟨⟨rfl, rfl, Nat.le_of_ble_eq_true rfl, Nat.le_of_ble_eq_true rfl⟩, Nat.le_of_ble_eq_true rfl, Nat.le_of_ble_eq_true rfl⟩ rfl rfl (Nat.le_of_ble_eq_true rfl) dX9_settled_76) w (fun H locs w => ?_)
            refine lv_if_ne (tgt := 119) hx hb dX9_settled_79 (by decide) (fun c34 => ?_) (fun c34 => ?_)
            · replace h := ifF h c34
              have g := B119 V v1 v2 v3 h
              rw [hG] at g
              exact g H locs ls w (lv_sub hl [0, 1, 2, 3] rfl)
            · replace h := ifT h c34
              refine lv_aload_n hx hb dX9_settled_82 rfl (lv_at hl 0 rfl) ?_
              refine m_get X w 0 sm_n0 sm_k0 ci9 38 (by decide) (fvR sm_k0 rfl sm_p38) rfl fl_X9_90 dX9_settled_83 ?_
              refine lv_iload_n hx hb dX9_settled_86 rfl (lv_at hl 2 rfl) ?_
              refine lv_iload_n hx hb dX9_settled_87 rfl (lv_at hl 3 rfl) ?_
              refine lv_ixor hx hb dX9_settled_88 ?_
              obtain ⟨g36, h⟩ := cki h
              refine m_iald X w 21 sm_n21 sm_k21 sm_z21 g36 dX9_settled_89 ?_
              refine lv_iconst (v := (-1)) hx hb dX9_settled_90 (by decide) ?_
              refine lv_icmp_eq (tgt := 119) hx hb dX9_settled_91 (by decide) (fun c37 => ?_) (fun c37 => ?_)
              · replace h := ifT h c37
                have g := B119 V v1 v2 v3 h
                rw [hG] at g
                exact g H locs ls w (lv_sub hl [0, 1, 2, 3] rfl)
              · replace h := ifF h c37
                refine lv_aload_n hx hb dX9_settled_94 rfl (lv_at hl 0 rfl) ?_
                refine m_get X w 0 sm_n0 sm_k0 ci9 38 (by decide) (fvR sm_k0 rfl sm_p38) rfl fl_X9_90 dX9_settled_95 ?_
                refine lv_iload_n hx hb dX9_settled_98 rfl (lv_at hl 2 rfl) ?_
                refine lv_aload_n hx hb dX9_settled_99 rfl (lv_at hl 0 rfl) ?_
                refine m_get X w 0 sm_n0 sm_k0 ci9 38 (by decide) (fvR sm_k0 rfl sm_p38) rfl fl_X9_90 dX9_settled_100 ?_
                refine lv_iload_n hx hb dX9_settled_103 rfl (lv_at hl 2 rfl) ?_
                obtain ⟨g38, h⟩ := cki h
                refine m_iald X w 21 sm_n21 sm_k21 sm_z21 g38 dX9_settled_104 ?_
                refine lv_aload_n hx hb dX9_settled_105 rfl (lv_at hl 0 rfl) ?_
                refine m_get X w 0 sm_n0 sm_k0 ci9 38 (by decide) (fvR sm_k0 rfl sm_p38) rfl fl_X9_90 dX9_settled_106 ?_
                refine lv_iload_n hx hb dX9_settled_109 rfl (lv_at hl 2 rfl) ?_
                refine lv_iload_n hx hb dX9_settled_110 rfl (lv_at hl 3 rfl) ?_
                refine lv_ixor hx hb dX9_settled_111 ?_
                obtain ⟨g39, h⟩ := cki h
                refine m_iald X w 21 sm_n21 sm_k21 sm_z21 g39 dX9_settled_112 ?_
                refine lv_iconst (v := 1) hx hb dX9_settled_113 (by decide) ?_
                refine lv_iadd hx hb dX9_settled_114 ?_
                obtain ⟨r40, q41, h⟩ := ob1i h
                refine m_ci (m_rS (As := [.int (V.2.1 21 v2.toNatClampNeg), .int ((V.2.1 21 (v2 ^^^ v3).toNatClampNeg) + (1 : Int32))]) (rest := [.int v2, .ref (ad 21)]) X w hl mi_X9_greater ml_X9_394 (c_X9_greater l D cy ad A Kc C0 N z V (V.2.1 21 v2.toNatClampNeg) ((V.2.1 21 (v2 ^^^ v3).toNatClampNeg) + (1 : Int32)) r40 q41) ⟨⟨rfl, rfl, Nat.le_of_ble_eq_true rfl, Nat.le_of_ble_eq_true rfl⟩, Nat.le_of_ble_eq_true rfl, Nat.le_of_ble_eq_true rfl⟩ rfl rfl (Nat.le_of_ble_eq_true rfl) dX9_settled_115) w (fun H locs w => ?_)
                obtain ⟨g42, h⟩ := cki h
                refine m_iast X w 21 sm_n21 sm_k21 sm_z21 g42 dX9_settled_118 (fun V43 H locs eV43 w => ?_)
                replace h := bdi h _ eV43
                have g := B119 V43 v1 v2 v3 h
                rw [hG] at g
                exact g H locs ls w (lv_sub hl [0, 1, 2, 3] rfl)
      have B67 : ∀ (V : Vt) (v1 : Int32) (v2 : Int32) (s0 : Int32) (s1 : Int32), f_X9_settled_67 N (f_X9_settled_37 N n37) V v1 v2 s0 s1 = some (r, V') → G 67 V [(0, .ref (ad 0)), (1, .int v1), (2, .int v2)] [.int s0, .int s1, .ref (ad 21)] := by
        intro V v1 v2 s0 s1 h
        rw [hG]
        intro H locs ls w hl
        rw [f_X9_settled_67] at h
        obtain ⟨g28, h⟩ := cki h
        refine m_iast X w 21 sm_n21 sm_k21 sm_z21 g28 dX9_settled_67 (fun V29 H locs eV29 w => ?_)
        replace h := bdi h _ eV29
        refine lv_iload_n hx hb dX9_settled_68 rfl (lv_at hl 2 rfl) ?_
        refine lv_istore_n (lv' := [(3, .int v2), (0, .ref (ad 0)), (1, .int v1), (2, .int v2)]) hx hb dX9_settled_69 rfl hl (by decide) rfl (fun ls hl => ?_)
        have g := L70 N V29 v1 v2 v2 h
        rw [hG] at g
        exact g H locs ls w (lv_sub hl [1, 2, 3, 0] rfl)
      intro V v1 v2 h
      rw [hG]
      intro H locs ls w hl
      rw [f_X9_settled_37] at h
      refine lv_iload_n hx hb dX9_settled_37 rfl (lv_at hl 2 rfl) ?_
      refine lv_iload_n hx hb dX9_settled_38 rfl (lv_at hl 1 rfl) ?_
      refine lv_icmp_gt (tgt := 134) hx hb dX9_settled_39 (by decide) (fun c22 => ?_) (fun c22 => ?_)
      · replace h := ifT h c22
        refine lv_iload_n hx hb dX9_settled_134 rfl (lv_at hl 1 rfl) ?_
        obtain ⟨r23, q24, h⟩ := ob1i h
        refine m_ci (m_rS (As := [.int v1]) (rest := []) X w hl mi_X9_ones ml_X9_349 (c_X9_ones l D cy ad A Kc C0 N z V v1 r23 q24) ⟨⟨rfl, rfl, Nat.le_of_ble_eq_true rfl, Nat.le_of_ble_eq_true rfl⟩, Nat.le_of_ble_eq_true rfl, Nat.le_of_ble_eq_true rfl⟩ rfl rfl (Nat.le_of_ble_eq_true rfl) dX9_settled_135) w (fun H locs w => ?_)
        refine lv_aload_n hx hb dX9_settled_138 rfl (lv_at hl 0 rfl) ?_
        refine m_get X w 0 sm_n0 sm_k0 ci9 38 (by decide) (fvR sm_k0 rfl sm_p38) rfl fl_X9_90 dX9_settled_139 ?_
        refine lv_iload_n hx hb dX9_settled_142 rfl (lv_at hl 1 rfl) ?_
        obtain ⟨g25, h⟩ := cki h
        refine m_iald X w 21 sm_n21 sm_k21 sm_z21 g25 dX9_settled_143 ?_
        refine lv_isub hx hb dX9_settled_144 ?_
        obtain ⟨rfl, rfl⟩ := reti h
        exact m_ri X w hr hlocks dX9_settled_145
      · replace h := ifF h c22
        refine lv_iload_n hx hb dX9_settled_42 rfl (lv_at hl 2 rfl) ?_
        refine lv_iload_n hx hb dX9_settled_43 rfl (lv_at hl 1 rfl) ?_
        refine lv_iconst (v := (-1)) hx hb dX9_settled_44 (by decide) ?_
        refine lv_ixor hx hb dX9_settled_45 ?_
        refine lv_iand hx hb dX9_settled_46 ?_
        refine lv_if_eq (tgt := 53) hx hb dX9_settled_47 (by decide) (fun c26 => ?_) (fun c26 => ?_)
        · replace h := ifT h c26
          refine lv_aload_n hx hb dX9_settled_53 rfl (lv_at hl 0 rfl) ?_
          refine m_get X w 0 sm_n0 sm_k0 ci9 38 (by decide) (fvR sm_k0 rfl sm_p38) rfl fl_X9_90 dX9_settled_54 ?_
          refine lv_iload_n hx hb dX9_settled_57 rfl (lv_at hl 2 rfl) ?_
          refine lv_iload_n hx hb dX9_settled_58 rfl (lv_at hl 2 rfl) ?_
          refine lv_if_ne (tgt := 66) hx hb dX9_settled_59 (by decide) (fun c27 => ?_) (fun c27 => ?_)
          · replace h := ifF h c27
            refine lv_iconst (v := (-1)) hx hb dX9_settled_66 (by decide) ?_
            have g := B67 V v1 v2 (-1 : Int32) v2 h
            rw [hG] at g
            exact g H locs ls w (lv_sub hl [0, 1, 2] rfl)
          · replace h := ifT h c27
            refine lv_iconst (v := 0) hx hb dX9_settled_62 (by decide) ?_
            refine lv_goto (tgt := 67) hx hb dX9_settled_63 (by decide) ?_
            have g := B67 V v1 v2 (0 : Int32) v2 h
            rw [hG] at g
            exact g H locs ls w (lv_sub hl [0, 1, 2] rfl)
        · replace h := ifF h c26
          refine lv_goto (tgt := 128) hx hb dX9_settled_50 (by decide) ?_
          have g := B128 V v1 v2 h
          rw [hG] at g
          exact g H locs ls w (lv_sub hl [0, 1, 2] rfl)
  have L4 : ∀ (n4 : Nat) (V : Vt) (v1 : Int32) (v2 : Int32), f_X9_settled_4 N n4 V v1 v2 = some (r, V') → G 4 V [(0, .ref (ad 0)), (1, .int v1), (2, .int v2)] [] := by
    intro n4
    induction n4 with
    | zero => intro V v1 v2 h; rw [f_X9_settled_4] at h; cases h
    | succ n4 ih4 =>
      have B27 : ∀ (V : Vt) (v2 : Int32) (s0 : Int32) (s1 : Int32), f_X9_settled_27 N (f_X9_settled_4 N n4) V v2 s0 s1 = some (r, V') → G 27 V [(0, .ref (ad 0)), (2, .int v2)] [.int s0, .int s1] := by
        intro V v2 s0 s1 h
        rw [hG]
        intro H locs ls w hl
        rw [f_X9_settled_27] at h
        refine lv_ior hx hb dX9_settled_27 ?_
        refine lv_topi (fun x47 ex47 => ?_)
        replace h := bdi h _ ex47
        refine lv_istore_n (lv' := [(1, .int x47), (0, .ref (ad 0)), (2, .int v2)]) hx hb dX9_settled_28 rfl hl (by decide) rfl (fun ls hl => ?_)
        obtain ⟨x48, ex48⟩ : ∃ y : Int32, y = v2 + (1 : Int32) := ⟨_, rfl⟩
        replace h := bdi h _ ex48
        refine lv_iinc (v := x48) (lv' := [(2, .int x48), (1, .int x47), (0, .ref (ad 0))]) hx hb dX9_settled_29 hl (k := 2) rfl (by rw [ex48]; rfl) (by decide) rfl (fun ls hl => ?_)
        refine lv_goto (tgt := 4) hx hb dX9_settled_32 (by decide) ?_
        have g := ih4 V x47 x48 h
        rw [hG] at g
        exact g H locs ls w (lv_sub hl [2, 1, 0] rfl)
      intro V v1 v2 h
      rw [hG]
      intro H locs ls w hl
      rw [f_X9_settled_4] at h
      refine lv_iload_n hx hb dX9_settled_4 rfl (lv_at hl 2 rfl) ?_
      refine lv_iconst (v := 5) hx hb dX9_settled_5 (by decide) ?_
      refine lv_icmp_ge (tgt := 35) hx hb dX9_settled_6 (by decide) (fun c21 => ?_) (fun c21 => ?_)
      · replace h := ifT h c21
        refine lv_iconst (v := 0) hx hb dX9_settled_35 (by decide) ?_
        refine lv_istore_n (lv' := [(2, .int (0 : Int32)), (0, .ref (ad 0)), (1, .int v1)]) hx hb dX9_settled_36 rfl hl (by decide) rfl (fun ls hl => ?_)
        have g := L37 N V v1 (0 : Int32) h
        rw [hG] at g
        exact g H locs ls w (lv_sub hl [1, 2, 0] rfl)
      · replace h := ifF h c21
        refine lv_iload_n hx hb dX9_settled_9 rfl (lv_at hl 1 rfl) ?_
        refine lv_aload_n hx hb dX9_settled_10 rfl (lv_at hl 0 rfl) ?_
        refine lv_iconst (v := 1) hx hb dX9_settled_11 (by decide) ?_
        refine lv_iload_n hx hb dX9_settled_12 rfl (lv_at hl 2 rfl) ?_
        refine lv_ishl hx hb dX9_settled_13 ?_
        obtain ⟨r44, q45, h⟩ := ob1i h
        refine m_ci (m_rV (As := [.int ((1 : Int32) <<< (v2 &&& 31))]) (rest := [.int v1]) X w hl mi_X9_moreOut ml_X9_409 0 sm_n0 sm_k0 rfl (c_X9_moreOut l D cy ad A Kc C0 N z V ((1 : Int32) <<< (v2 &&& 31)) r44 q45) ⟨⟨rfl, rfl, Nat.le_of_ble_eq_true rfl, Nat.le_of_ble_eq_true rfl⟩, Nat.le_of_ble_eq_true rfl, Nat.le_of_ble_eq_true rfl⟩ rfl rfl (Nat.le_of_ble_eq_true rfl) dX9_settled_14) w (fun H locs w => ?_)
        refine lv_if_ne (tgt := 24) hx hb dX9_settled_17 (by decide) (fun c46 => ?_) (fun c46 => ?_)
        · replace h := ifF h c46
          refine lv_iconst (v := 1) hx hb dX9_settled_24 (by decide) ?_
          refine lv_iload_n hx hb dX9_settled_25 rfl (lv_at hl 2 rfl) ?_
          refine lv_ishl hx hb dX9_settled_26 ?_
          have g := B27 V v2 ((1 : Int32) <<< (v2 &&& 31)) v1 h
          rw [hG] at g
          exact g H locs ls w (lv_sub hl [0, 2] rfl)
        · replace h := ifT h c46
          refine lv_iconst (v := 0) hx hb dX9_settled_20 (by decide) ?_
          refine lv_goto (tgt := 27) hx hb dX9_settled_21 (by decide) ?_
          have g := B27 V v2 (0 : Int32) v1 h
          rw [hG] at g
          exact g H locs ls w (lv_sub hl [0, 2] rfl)
  rw [f_X9_settled] at h
  refine lv_iconst (v := 0) hx hb dX9_settled_0 (by decide) ?_
  refine lv_istore_n (lv' := [(1, .int (0 : Int32)), (0, .ref (ad 0))]) hx hb dX9_settled_1 rfl hl (by decide) rfl (fun ls hl => ?_)
  refine lv_iconst (v := 0) hx hb dX9_settled_2 (by decide) ?_
  refine lv_istore_n (lv' := [(2, .int (0 : Int32)), (1, .int (0 : Int32)), (0, .ref (ad 0))]) hx hb dX9_settled_3 rfl hl (by decide) rfl (fun ls hl => ?_)
  have g := L4 N V (0 : Int32) (0 : Int32) h
  rw [hG] at g
  exact g H locs ls w (lv_sub hl [2, 1, 0] rfl)
