def f_X9_passes0_17 (N : Nat) (V : Vt) (s0 : Int32) : Option (Int32 × Vt) := if s0 = 0 then cb s0 (some (s0, V)) else bd (sF V 0 22 ((V.1 0 22) + (1 : Int32))) (fun V9 => cb s0 (some (s0, V9)))
def f_X9_passes0 (N : Nat) (V : Vt) (a1 : Int32) : Option (Int32 × Vt) := ob1 (f_X9_codeAt N V (V.1 0 22)) (fun r4 => if r4 = a1 then f_X9_passes0_17 N V (1 : Int32) else f_X9_passes0_17 N V (0 : Int32))
set_option maxHeartbeats 4000000 in
set_option maxRecDepth 100000 in
theorem c_X9_passes0 (l : Launch) (D : va_G) (cy : Nat → ClassId) (ad : Nat → Nat) (A : Nat → Prop) (Kc : State → Prop) (C0 : Cx ad A Kc) (N : Nat) (z : Nat) (V : Vt) (a1 : Int32) (r : Int32) (V' : Vt) (h : f_X9_passes0 N V a1 = some (r, V')) : Met l yX9_passes0 (mw yX9_passes0 cX9_passes0 3 (some .boolean)) { frames := 1, cells := 0, slots := 0, locals := 21 } (PreM D cy ad Kc (SM z) V [.ref (ad 0), .int a1]) (QI D cy ad A r (SM z) V') 0 0 A := by
  refine ct_go C0 (own := RX9) rfl (by decide) rfl ?_
  intro p e s m below meth c ls H locs X hr hlocks hnm hl w
  have hx := X.1.1
  have hb := X.1.2.1
  have hown := X.2.1
  have hts := X.2.2.1
  have hl : lv_has ls 3 [(0, .ref (ad 0)), (1, .int a1)] := hl
  obtain ⟨G, hG⟩ : ∃ G : Nat → Vt → List (Nat × Value) → List Value → Prop, G = fun pc V lv st => ∀ (H : Heap) (locs : List Loc) (ls : Array Slot), Wd D cy ad A s.heap (SM z) V H locs → lv_has ls 3 lv → W p l e { frames := 1, cells := 0, slots := 0, locals := 21 } s m ([.ref (ad 0), .int a1] : List Value).toArray below meth c H locs 0 0 (MQ below (QI D cy ad A r (SM z) V') ([.ref (ad 0), .int a1] : List Value).toArray s 0 0 A) (F0 m pc ls st) := ⟨_, rfl⟩
  have B17 : ∀ (V : Vt) (s0 : Int32), f_X9_passes0_17 N V s0 = some (r, V') → G 17 V [(0, .ref (ad 0))] [.int s0] := by
    intro V s0 h
    rw [hG]
    intro H locs ls w hl
    rw [f_X9_passes0_17] at h
    refine lv_istore_n (lv' := [(2, .int s0), (0, .ref (ad 0))]) hx hb dX9_passes0_17 rfl hl (by decide) rfl (fun ls hl => ?_)
    refine lv_iload_n hx hb dX9_passes0_18 rfl (lv_at hl 0 rfl) ?_
    refine lv_if_eq (tgt := 32) hx hb dX9_passes0_19 (by decide) (fun c7 => ?_) (fun c7 => ?_)
    · replace h := ifT h c7
      refine lv_iload_n hx hb dX9_passes0_32 rfl (lv_at hl 0 rfl) ?_
      obtain ⟨g8, h⟩ := cbi h
      obtain ⟨rfl, rfl⟩ := reti h
      exact m_rz X w hr (nb01 g8) hlocks dX9_passes0_33
    · replace h := ifF h c7
      refine lv_aload_n hx hb dX9_passes0_22 rfl (lv_at hl 1 rfl) ?_
      refine lv_dup hx hb dX9_passes0_23 rfl ?_
      refine m_get X w 0 sm_n0 sm_k0 ci9 22 (by decide) (fvI sm_k0 rfl) rfl fl_X9_258 dX9_passes0_24 ?_
      refine lv_iconst (v := 1) hx hb dX9_passes0_27 (by decide) ?_
      refine lv_iadd hx hb dX9_passes0_28 ?_
      refine m_put X w 0 sm_n0 sm_k0 ci9 22 (by decide) rfl rfl rfl rfl rfl fl_X9_258 dX9_passes0_29 (fun V9 H locs eV9 w => ?_)
      replace h := bdi h _ eV9
      refine lv_iload_n hx hb dX9_passes0_32 rfl (lv_at hl 0 rfl) ?_
      obtain ⟨g10, h⟩ := cbi h
      obtain ⟨rfl, rfl⟩ := reti h
      exact m_rz X w hr (nb01 g10) hlocks dX9_passes0_33
  rw [f_X9_passes0] at h
  refine lv_aload_n hx hb dX9_passes0_0 rfl (lv_at hl 0 rfl) ?_
  refine lv_aload_n hx hb dX9_passes0_1 rfl (lv_at hl 0 rfl) ?_
  refine m_get X w 0 sm_n0 sm_k0 ci9 22 (by decide) (fvI sm_k0 rfl) rfl fl_X9_258 dX9_passes0_2 ?_
  obtain ⟨r4, q5, h⟩ := ob1i h
  refine m_ci (m_rV (As := [.int (V.1 0 22)]) (rest := []) X w hl mi_X9_codeAt ml_X9_261 0 sm_n0 sm_k0 rfl (c_X9_codeAt l D cy ad A Kc C0 N z V (V.1 0 22) r4 q5) ⟨⟨rfl, rfl, Nat.le_of_ble_eq_true rfl, Nat.le_of_ble_eq_true rfl⟩, Nat.le_of_ble_eq_true rfl, Nat.le_of_ble_eq_true rfl⟩ rfl rfl (Nat.le_of_ble_eq_true rfl) dX9_passes0_5) w (fun H locs w => ?_)
  refine lv_iload_n hx hb dX9_passes0_8 rfl (lv_at hl 1 rfl) ?_
  refine lv_icmp_ne (tgt := 16) hx hb dX9_passes0_9 (by decide) (fun c6 => ?_) (fun c6 => ?_)
  · replace h := ifF h c6
    refine lv_iconst (v := 0) hx hb dX9_passes0_16 (by decide) ?_
    have g := B17 V (0 : Int32) h
    rw [hG] at g
    exact g H locs ls w (lv_sub hl [0] rfl)
  · replace h := ifT h c6
    refine lv_iconst (v := 1) hx hb dX9_passes0_12 (by decide) ?_
    refine lv_goto (tgt := 17) hx hb dX9_passes0_13 (by decide) ?_
    have g := B17 V (1 : Int32) h
    rw [hG] at g
    exact g H locs ls w (lv_sub hl [0] rfl)
def f_X9_setsAsked_55 (N : Nat) (V : Vt) (v2 : Int32) (s0 : Int32) (s1 : Int32) : Option Vt := ck s1 10 (bd (sA V 12 s1.toNatClampNeg s0) (fun V40 => ck (102 : Int32) 5715 (ck (5 : Int32) 10 (bd (sA V40 12 (5 : Int32).toNatClampNeg (V40.2.1 2 (102 : Int32).toNatClampNeg)) (fun V43 => ck ((0 : Int32) + v2) 5715 (ck (6 : Int32) 10 (bd (sA V43 12 (6 : Int32).toNatClampNeg (V43.2.1 2 ((0 : Int32) + v2).toNatClampNeg)) (fun V46 => ob1 (f_X9_offBy N V46 (v2 / (5 : Int32))) (fun r47 => ck (7 : Int32) 10 (bd (sA V46 12 (7 : Int32).toNatClampNeg r47) (fun V50 => ob1 (f_X9_offBy N V50 ((5 : Int32) + (v2 - v2 / (5 : Int32) * (5 : Int32)))) (fun r51 => ck (8 : Int32) 10 (bd (sA V50 12 (8 : Int32).toNatClampNeg r51) (fun V54 => ck (31 : Int32) 5715 (ck (9 : Int32) 10 (bd (sA V54 12 (9 : Int32).toNatClampNeg (V54.2.1 2 (31 : Int32).toNatClampNeg)) (fun V57 => some V57)))))))))))))))))
def f_X9_setsAsked (N : Nat) (V : Vt) (a1 : Int32) (a2 : Int32) : Option Vt := ck (0 : Int32) 10 (bd (sA V 12 (0 : Int32).toNatClampNeg a2) (fun V30 => ck (1 : Int32) 10 (bd (sA V30 12 (1 : Int32).toNatClampNeg (a2 / (5 : Int32))) (fun V32 => ck (2 : Int32) 10 (bd (sA V32 12 (2 : Int32).toNatClampNeg (a2 - a2 / (5 : Int32) * (5 : Int32))) (fun V34 => ck (3 : Int32) 10 (bd (sA V34 12 (3 : Int32).toNatClampNeg a1) (fun V36 => if a1 = (-1 : Int32) then f_X9_setsAsked_55 N V36 a2 (-1 : Int32) (4 : Int32) else ck ((42 : Int32) + a1) 5715 (f_X9_setsAsked_55 N V36 a2 (V36.2.1 2 ((42 : Int32) + a1).toNatClampNeg) (4 : Int32))))))))))
set_option maxHeartbeats 4000000 in
set_option maxRecDepth 100000 in
theorem c_X9_setsAsked (l : Launch) (D : va_G) (cy : Nat → ClassId) (ad : Nat → Nat) (A : Nat → Prop) (Kc : State → Prop) (C0 : Cx ad A Kc) (N : Nat) (z : Nat) (V : Vt) (a1 : Int32) (a2 : Int32) (V' : Vt) (h : f_X9_setsAsked N V a1 a2 = some V') : Met l yX9_setsAsked (mw yX9_setsAsked cX9_setsAsked 3 none) { frames := 1, cells := 0, slots := 0, locals := 24 } (PreM D cy ad Kc (SM z) V [.ref (ad 0), .int a1, .int a2]) (QV D cy ad A (SM z) V') 0 0 A := by
  refine ct_go C0 (own := RX9) rfl (by decide) rfl ?_
  intro p e s m below meth c ls H locs X hr hlocks hnm hl w
  have hx := X.1.1
  have hb := X.1.2.1
  have hown := X.2.1
  have hts := X.2.2.1
  have hl : lv_has ls 3 [(0, .ref (ad 0)), (1, .int a1), (2, .int a2)] := hl
  obtain ⟨G, hG⟩ : ∃ G : Nat → Vt → List (Nat × Value) → List Value → Prop, G = fun pc V lv st => ∀ (H : Heap) (locs : List Loc) (ls : Array Slot), Wd D cy ad A s.heap (SM z) V H locs → lv_has ls 3 lv → W p l e { frames := 1, cells := 0, slots := 0, locals := 24 } s m ([.ref (ad 0), .int a1, .int a2] : List Value).toArray below meth c H locs 0 0 (MQ below (QV D cy ad A (SM z) V') ([.ref (ad 0), .int a1, .int a2] : List Value).toArray s 0 0 A) (F0 m pc ls st) := ⟨_, rfl⟩
  have B55 : ∀ (V : Vt) (v2 : Int32) (s0 : Int32) (s1 : Int32), f_X9_setsAsked_55 N V v2 s0 s1 = some V' → G 55 V [(0, .ref (ad 0)), (2, .int v2)] [.int s0, .int s1, .ref (ad 12)] := by
    intro V v2 s0 s1 h
    rw [hG]
    intro H locs ls w hl
    rw [f_X9_setsAsked_55] at h
    obtain ⟨g39, h⟩ := cki h
    refine m_iast X w 12 sm_n12 sm_k12 sm_z12 g39 dX9_setsAsked_55 (fun V40 H locs eV40 w => ?_)
    replace h := bdi h _ eV40
    refine lv_aload_n hx hb dX9_setsAsked_56 rfl (lv_at hl 0 rfl) ?_
    refine m_get X w 0 sm_n0 sm_k0 ci9 26 (by decide) (fvR sm_k0 rfl sm_p26) rfl fl_X9_63 dX9_setsAsked_57 ?_
    refine lv_iconst (v := 5) hx hb dX9_setsAsked_60 (by decide) ?_
    refine lv_aload_n hx hb dX9_setsAsked_61 rfl (lv_at hl 0 rfl) ?_
    refine m_get X w 0 sm_n0 sm_k0 ci9 2 (by decide) (fvR sm_k0 rfl sm_p2) rfl fl_X9_28 dX9_setsAsked_62 ?_
    refine lv_bipush (v := 102) hx hb dX9_setsAsked_65 (by decide) ?_
    obtain ⟨g41, h⟩ := cki h
    refine m_iald X w 2 sm_n2 sm_k2 sm_z2 g41 dX9_setsAsked_67 ?_
    obtain ⟨g42, h⟩ := cki h
    refine m_iast X w 12 sm_n12 sm_k12 sm_z12 g42 dX9_setsAsked_68 (fun V43 H locs eV43 w => ?_)
    replace h := bdi h _ eV43
    refine lv_aload_n hx hb dX9_setsAsked_69 rfl (lv_at hl 0 rfl) ?_
    refine m_get X w 0 sm_n0 sm_k0 ci9 26 (by decide) (fvR sm_k0 rfl sm_p26) rfl fl_X9_63 dX9_setsAsked_70 ?_
    refine lv_bipush (v := 6) hx hb dX9_setsAsked_73 (by decide) ?_
    refine lv_aload_n hx hb dX9_setsAsked_75 rfl (lv_at hl 0 rfl) ?_
    refine m_get X w 0 sm_n0 sm_k0 ci9 2 (by decide) (fvR sm_k0 rfl sm_p2) rfl fl_X9_28 dX9_setsAsked_76 ?_
    refine lv_iconst (v := 0) hx hb dX9_setsAsked_79 (by decide) ?_
    refine lv_iload_n hx hb dX9_setsAsked_80 rfl (lv_at hl 1 rfl) ?_
    refine lv_iadd hx hb dX9_setsAsked_81 ?_
    obtain ⟨g44, h⟩ := cki h
    refine m_iald X w 2 sm_n2 sm_k2 sm_z2 g44 dX9_setsAsked_82 ?_
    obtain ⟨g45, h⟩ := cki h
    refine m_iast X w 12 sm_n12 sm_k12 sm_z12 g45 dX9_setsAsked_83 (fun V46 H locs eV46 w => ?_)
    replace h := bdi h _ eV46
    refine lv_aload_n hx hb dX9_setsAsked_84 rfl (lv_at hl 0 rfl) ?_
    refine m_get X w 0 sm_n0 sm_k0 ci9 26 (by decide) (fvR sm_k0 rfl sm_p26) rfl fl_X9_63 dX9_setsAsked_85 ?_
    refine lv_bipush (v := 7) hx hb dX9_setsAsked_88 (by decide) ?_
    refine lv_aload_n hx hb dX9_setsAsked_90 rfl (lv_at hl 0 rfl) ?_
    refine lv_iload_n hx hb dX9_setsAsked_91 rfl (lv_at hl 1 rfl) ?_
    refine lv_iconst (v := 5) hx hb dX9_setsAsked_92 (by decide) ?_
    refine lv_idiv hx hb dX9_setsAsked_93 (by decide) ?_
    obtain ⟨r47, q48, h⟩ := ob1i h
    refine m_ci (m_rV (As := [.int (v2 / (5 : Int32))]) (rest := [.int (7 : Int32), .ref (ad 12)]) X w hl mi_X9_offBy ml_X9_132 0 sm_n0 sm_k0 rfl (c_X9_offBy l D cy ad A Kc C0 N z V46 (v2 / (5 : Int32)) r47 q48) ⟨⟨rfl, rfl, Nat.le_of_ble_eq_true rfl, Nat.le_of_ble_eq_true rfl⟩, Nat.le_of_ble_eq_true rfl, Nat.le_of_ble_eq_true rfl⟩ rfl rfl (Nat.le_of_ble_eq_true rfl) dX9_setsAsked_94) w (fun H locs w => ?_)
    obtain ⟨g49, h⟩ := cki h
    refine m_iast X w 12 sm_n12 sm_k12 sm_z12 g49 dX9_setsAsked_97 (fun V50 H locs eV50 w => ?_)
    replace h := bdi h _ eV50
    refine lv_aload_n hx hb dX9_setsAsked_98 rfl (lv_at hl 0 rfl) ?_
    refine m_get X w 0 sm_n0 sm_k0 ci9 26 (by decide) (fvR sm_k0 rfl sm_p26) rfl fl_X9_63 dX9_setsAsked_99 ?_
    refine lv_bipush (v := 8) hx hb dX9_setsAsked_102 (by decide) ?_
    refine lv_aload_n hx hb dX9_setsAsked_104 rfl (lv_at hl 0 rfl) ?_
    refine lv_iconst (v := 5) hx hb dX9_setsAsked_105 (by decide) ?_
    refine lv_iload_n hx hb dX9_setsAsked_106 rfl (lv_at hl 1 rfl) ?_
    refine lv_iconst (v := 5) hx hb dX9_setsAsked_107 (by decide) ?_
    refine lv_irem hx hb dX9_setsAsked_108 (by decide) ?_
    refine lv_iadd hx hb dX9_setsAsked_109 ?_
    obtain ⟨r51, q52, h⟩ := ob1i h
    refine m_ci (m_rV (As := [.int ((5 : Int32) + (v2 - v2 / (5 : Int32) * (5 : Int32)))]) (rest := [.int (8 : Int32), .ref (ad 12)]) X w hl mi_X9_offBy ml_X9_132 0 sm_n0 sm_k0 rfl (c_X9_offBy l D cy ad A Kc C0 N z V50 ((5 : Int32) + (v2 - v2 / (5 : Int32) * (5 : Int32))) r51 q52) ⟨⟨rfl, rfl, Nat.le_of_ble_eq_true rfl, Nat.le_of_ble_eq_true rfl⟩, Nat.le_of_ble_eq_true rfl, Nat.le_of_ble_eq_true rfl⟩ rfl rfl (Nat.le_of_ble_eq_true rfl) dX9_setsAsked_110) w (fun H locs w => ?_)
    obtain ⟨g53, h⟩ := cki h
    refine m_iast X w 12 sm_n12 sm_k12 sm_z12 g53 dX9_setsAsked_113 (fun V54 H locs eV54 w => ?_)
    replace h := bdi h _ eV54
    refine lv_aload_n hx hb dX9_setsAsked_114 rfl (lv_at hl 0 rfl) ?_
    refine m_get X w 0 sm_n0 sm_k0 ci9 26 (by decide) (fvR sm_k0 rfl sm_p26) rfl fl_X9_63 dX9_setsAsked_115 ?_
    refine lv_bipush (v := 9) hx hb dX9_setsAsked_118 (by decide) ?_
    refine lv_aload_n hx hb dX9_setsAsked_120 rfl (lv_at hl 0 rfl) ?_
    refine m_get X w 0 sm_n0 sm_k0 ci9 2 (by decide) (fvR sm_k0 rfl sm_p2) rfl fl_X9_28 dX9_setsAsked_121 ?_
    refine lv_bipush (v := 31) hx hb dX9_setsAsked_124 (by decide) ?_
    obtain ⟨g55, h⟩ := cki h
    refine m_iald X w 2 sm_n2 sm_k2 sm_z2 g55 dX9_setsAsked_126 ?_
    obtain ⟨g56, h⟩ := cki h
    refine m_iast X w 12 sm_n12 sm_k12 sm_z12 g56 dX9_setsAsked_127 (fun V57 H locs eV57 w => ?_)
    replace h := bdi h _ eV57
    obtain rfl := Option.some.inj h
    exact m_rv X w hr hlocks dX9_setsAsked_128
  rw [f_X9_setsAsked] at h
  refine lv_aload_n hx hb dX9_setsAsked_0 rfl (lv_at hl 0 rfl) ?_
  refine m_get X w 0 sm_n0 sm_k0 ci9 26 (by decide) (fvR sm_k0 rfl sm_p26) rfl fl_X9_63 dX9_setsAsked_1 ?_
  refine lv_iconst (v := 0) hx hb dX9_setsAsked_4 (by decide) ?_
  refine lv_iload_n hx hb dX9_setsAsked_5 rfl (lv_at hl 2 rfl) ?_
  obtain ⟨g29, h⟩ := cki h
  refine m_iast X w 12 sm_n12 sm_k12 sm_z12 g29 dX9_setsAsked_6 (fun V30 H locs eV30 w => ?_)
  replace h := bdi h _ eV30
  refine lv_aload_n hx hb dX9_setsAsked_7 rfl (lv_at hl 0 rfl) ?_
  refine m_get X w 0 sm_n0 sm_k0 ci9 26 (by decide) (fvR sm_k0 rfl sm_p26) rfl fl_X9_63 dX9_setsAsked_8 ?_
  refine lv_iconst (v := 1) hx hb dX9_setsAsked_11 (by decide) ?_
  refine lv_iload_n hx hb dX9_setsAsked_12 rfl (lv_at hl 2 rfl) ?_
  refine lv_iconst (v := 5) hx hb dX9_setsAsked_13 (by decide) ?_
  refine lv_idiv hx hb dX9_setsAsked_14 (by decide) ?_
  obtain ⟨g31, h⟩ := cki h
  refine m_iast X w 12 sm_n12 sm_k12 sm_z12 g31 dX9_setsAsked_15 (fun V32 H locs eV32 w => ?_)
  replace h := bdi h _ eV32
  refine lv_aload_n hx hb dX9_setsAsked_16 rfl (lv_at hl 0 rfl) ?_
  refine m_get X w 0 sm_n0 sm_k0 ci9 26 (by decide) (fvR sm_k0 rfl sm_p26) rfl fl_X9_63 dX9_setsAsked_17 ?_
  refine lv_iconst (v := 2) hx hb dX9_setsAsked_20 (by decide) ?_
  refine lv_iload_n hx hb dX9_setsAsked_21 rfl (lv_at hl 2 rfl) ?_
  refine lv_iconst (v := 5) hx hb dX9_setsAsked_22 (by decide) ?_
  refine lv_irem hx hb dX9_setsAsked_23 (by decide) ?_
  obtain ⟨g33, h⟩ := cki h
  refine m_iast X w 12 sm_n12 sm_k12 sm_z12 g33 dX9_setsAsked_24 (fun V34 H locs eV34 w => ?_)
  replace h := bdi h _ eV34
  refine lv_aload_n hx hb dX9_setsAsked_25 rfl (lv_at hl 0 rfl) ?_
  refine m_get X w 0 sm_n0 sm_k0 ci9 26 (by decide) (fvR sm_k0 rfl sm_p26) rfl fl_X9_63 dX9_setsAsked_26 ?_
  refine lv_iconst (v := 3) hx hb dX9_setsAsked_29 (by decide) ?_
  refine lv_iload_n hx hb dX9_setsAsked_30 rfl (lv_at hl 1 rfl) ?_
  obtain ⟨g35, h⟩ := cki h
  refine m_iast X w 12 sm_n12 sm_k12 sm_z12 g35 dX9_setsAsked_31 (fun V36 H locs eV36 w => ?_)
  replace h := bdi h _ eV36
  refine lv_aload_n hx hb dX9_setsAsked_32 rfl (lv_at hl 0 rfl) ?_
  refine m_get X w 0 sm_n0 sm_k0 ci9 26 (by decide) (fvR sm_k0 rfl sm_p26) rfl fl_X9_63 dX9_setsAsked_33 ?_
  refine lv_iconst (v := 4) hx hb dX9_setsAsked_36 (by decide) ?_
  refine lv_iload_n hx hb dX9_setsAsked_37 rfl (lv_at hl 1 rfl) ?_
  refine lv_iconst (v := (-1)) hx hb dX9_setsAsked_38 (by decide) ?_
  refine lv_icmp_ne (tgt := 46) hx hb dX9_setsAsked_39 (by decide) (fun c37 => ?_) (fun c37 => ?_)
  · replace h := ifF h c37
    refine lv_aload_n hx hb dX9_setsAsked_46 rfl (lv_at hl 0 rfl) ?_
    refine m_get X w 0 sm_n0 sm_k0 ci9 2 (by decide) (fvR sm_k0 rfl sm_p2) rfl fl_X9_28 dX9_setsAsked_47 ?_
    refine lv_bipush (v := 42) hx hb dX9_setsAsked_50 (by decide) ?_
    refine lv_iload_n hx hb dX9_setsAsked_52 rfl (lv_at hl 1 rfl) ?_
    refine lv_iadd hx hb dX9_setsAsked_53 ?_
    obtain ⟨g38, h⟩ := cki h
    refine m_iald X w 2 sm_n2 sm_k2 sm_z2 g38 dX9_setsAsked_54 ?_
    have g := B55 V36 a2 (V36.2.1 2 ((42 : Int32) + a1).toNatClampNeg) (4 : Int32) h
    rw [hG] at g
    exact g H locs ls w (lv_sub hl [0, 2] rfl)
  · replace h := ifT h c37
    refine lv_iconst (v := (-1)) hx hb dX9_setsAsked_42 (by decide) ?_
    refine lv_goto (tgt := 55) hx hb dX9_setsAsked_43 (by decide) ?_
    have g := B55 V36 a2 (-1 : Int32) (4 : Int32) h
    rw [hG] at g
    exact g H locs ls w (lv_sub hl [0, 2] rfl)
def f_X9_takesNow (N : Nat) (V : Vt) (a1 : Int32) (a2 : Int32) (a3 : Int32) : Option Vt := ck ((0 : Int32) + a1) 5715 (ck ((0 : Int32) + a1) 5715 (bd (sA V 2 ((0 : Int32) + a1).toNatClampNeg ((V.2.1 2 ((0 : Int32) + a1).toNatClampNeg) - a3)) (fun V11 => ck ((25 : Int32) + a2) 5715 (ob1 (f_X9_lesser N (9999 : Int32) ((V11.2.1 2 ((25 : Int32) + a2).toNatClampNeg) + a3)) (fun r13 => ck ((25 : Int32) + a2) 5715 (bd (sA V11 2 ((25 : Int32) + a2).toNatClampNeg r13) (fun V16 => some V16)))))))
set_option maxHeartbeats 4000000 in
set_option maxRecDepth 100000 in
theorem c_X9_takesNow (l : Launch) (D : va_G) (cy : Nat → ClassId) (ad : Nat → Nat) (A : Nat → Prop) (Kc : State → Prop) (C0 : Cx ad A Kc) (N : Nat) (z : Nat) (V : Vt) (a1 : Int32) (a2 : Int32) (a3 : Int32) (V' : Vt) (h : f_X9_takesNow N V a1 a2 a3 = some V') : Met l yX9_takesNow (mw yX9_takesNow cX9_takesNow 4 none) { frames := 1, cells := 0, slots := 0, locals := 21 } (PreM D cy ad Kc (SM z) V [.ref (ad 0), .int a1, .int a2, .int a3]) (QV D cy ad A (SM z) V') 0 0 A := by
  refine ct_go C0 (own := RX9) rfl (by decide) rfl ?_
  intro p e s m below meth c ls H locs X hr hlocks hnm hl w
  have hx := X.1.1
  have hb := X.1.2.1
  have hown := X.2.1
  have hts := X.2.2.1
  have hl : lv_has ls 4 [(0, .ref (ad 0)), (1, .int a1), (2, .int a2), (3, .int a3)] := hl
  rw [f_X9_takesNow] at h
  refine lv_aload_n hx hb dX9_takesNow_0 rfl (lv_at hl 0 rfl) ?_
  refine m_get X w 0 sm_n0 sm_k0 ci9 2 (by decide) (fvR sm_k0 rfl sm_p2) rfl fl_X9_28 dX9_takesNow_1 ?_
  refine lv_iconst (v := 0) hx hb dX9_takesNow_4 (by decide) ?_
  refine lv_iload_n hx hb dX9_takesNow_5 rfl (lv_at hl 1 rfl) ?_
  refine lv_iadd hx hb dX9_takesNow_6 ?_
  refine lv_dup2_11 hx hb dX9_takesNow_7 rfl rfl ?_
  obtain ⟨g9, h⟩ := cki h
  refine m_iald X w 2 sm_n2 sm_k2 sm_z2 g9 dX9_takesNow_8 ?_
  refine lv_iload_n hx hb dX9_takesNow_9 rfl (lv_at hl 3 rfl) ?_
  refine lv_isub hx hb dX9_takesNow_10 ?_
  obtain ⟨g10, h⟩ := cki h
  refine m_iast X w 2 sm_n2 sm_k2 sm_z2 g10 dX9_takesNow_11 (fun V11 H locs eV11 w => ?_)
  replace h := bdi h _ eV11
  refine lv_aload_n hx hb dX9_takesNow_12 rfl (lv_at hl 0 rfl) ?_
  refine m_get X w 0 sm_n0 sm_k0 ci9 2 (by decide) (fvR sm_k0 rfl sm_p2) rfl fl_X9_28 dX9_takesNow_13 ?_
  refine lv_bipush (v := 25) hx hb dX9_takesNow_16 (by decide) ?_
  refine lv_iload_n hx hb dX9_takesNow_18 rfl (lv_at hl 2 rfl) ?_
  refine lv_iadd hx hb dX9_takesNow_19 ?_
  refine lv_sipush (v := 9999) hx hb dX9_takesNow_20 (by decide) ?_
  refine lv_aload_n hx hb dX9_takesNow_23 rfl (lv_at hl 0 rfl) ?_
  refine m_get X w 0 sm_n0 sm_k0 ci9 2 (by decide) (fvR sm_k0 rfl sm_p2) rfl fl_X9_28 dX9_takesNow_24 ?_
  refine lv_bipush (v := 25) hx hb dX9_takesNow_27 (by decide) ?_
  refine lv_iload_n hx hb dX9_takesNow_29 rfl (lv_at hl 2 rfl) ?_
  refine lv_iadd hx hb dX9_takesNow_30 ?_
  obtain ⟨g12, h⟩ := cki h
  refine m_iald X w 2 sm_n2 sm_k2 sm_z2 g12 dX9_takesNow_31 ?_
  refine lv_iload_n hx hb dX9_takesNow_32 rfl (lv_at hl 3 rfl) ?_
  refine lv_iadd hx hb dX9_takesNow_33 ?_
  obtain ⟨r13, q14, h⟩ := ob1i h
  refine m_ci (m_rS (As := [.int (9999 : Int32), .int ((V11.2.1 2 ((25 : Int32) + a2).toNatClampNeg) + a3)]) (rest := [.int ((25 : Int32) + a2), .ref (ad 2)]) X w hl mi_X9_lesser ml_X9_319 (c_X9_lesser l D cy ad A Kc C0 N z V11 (9999 : Int32) ((V11.2.1 2 ((25 : Int32) + a2).toNatClampNeg) + a3) r13 q14) ⟨⟨rfl, rfl, Nat.le_of_ble_eq_true rfl, Nat.le_of_ble_eq_true rfl⟩, Nat.le_of_ble_eq_true rfl, Nat.le_of_ble_eq_true rfl⟩ rfl rfl (Nat.le_of_ble_eq_true rfl) dX9_takesNow_34) w (fun H locs w => ?_)
  obtain ⟨g15, h⟩ := cki h
  refine m_iast X w 2 sm_n2 sm_k2 sm_z2 g15 dX9_takesNow_37 (fun V16 H locs eV16 w => ?_)
  replace h := bdi h _ eV16
  obtain rfl := Option.some.inj h
  exact m_rv X w hr hlocks dX9_takesNow_38
def f_X9_undo_34 (N : Nat) : Nat → Vt → Int32 → Int32 → Option (Int32 × Vt)
  | 0, _, _, _ => none
  | n + 1, V, v1, v2 => if (32 : Int32) ≤ v2 then ck (v1 + (32 : Int32)) 528 (ob (f_X9_good N V (V.2.1 13 (v1 + (32 : Int32)).toNatClampNeg)) (fun r19 V21 => some (r19, V21))) else ck (v1 + v2) 528 (ck v2 5715 (bd (sA V 2 v2.toNatClampNeg (V.2.1 13 (v1 + v2).toNatClampNeg)) (fun V24 => bd (v2 + (1 : Int32)) (fun x25 => (f_X9_undo_34 N n) V24 v1 x25))))
def f_X9_undo (N : Nat) (V : Vt) : Option (Int32 × Vt) := if (V.1 0 31) = 0 then ob (f_X9_refuses N V (-3 : Int32)) (fun r26 V28 => some (r26, V28)) else bd (sF V 0 31 ((V.1 0 31) - (1 : Int32))) (fun V15 => bd ((33 : Int32) * (V15.1 0 31)) (fun x16 => f_X9_undo_34 N N V15 x16 (0 : Int32)))
set_option maxHeartbeats 4000000 in
set_option maxRecDepth 100000 in
theorem c_X9_undo (l : Launch) (D : va_G) (cy : Nat → ClassId) (ad : Nat → Nat) (A : Nat → Prop) (Kc : State → Prop) (C0 : Cx ad A Kc) (N : Nat) (z : Nat) (V : Vt) (r : Int32) (V' : Vt) (h : f_X9_undo N V = some (r, V')) : Met l yX9_undo (mw yX9_undo cX9_undo 3 (some .int)) { frames := 1, cells := 0, slots := 0, locals := 21 } (PreM D cy ad Kc (SM z) V [.ref (ad 0)]) (QI D cy ad A r (SM z) V') 0 0 A := by
  refine ct_go C0 (own := RX9) rfl (by decide) rfl ?_
  intro p e s m below meth c ls H locs X hr hlocks hnm hl w
  have hx := X.1.1
  have hb := X.1.2.1
  have hown := X.2.1
  have hts := X.2.2.1
  have hl : lv_has ls 3 [(0, .ref (ad 0))] := hl
  obtain ⟨G, hG⟩ : ∃ G : Nat → Vt → List (Nat × Value) → List Value → Prop, G = fun pc V lv st => ∀ (H : Heap) (locs : List Loc) (ls : Array Slot), Wd D cy ad A s.heap (SM z) V H locs → lv_has ls 3 lv → W p l e { frames := 1, cells := 0, slots := 0, locals := 21 } s m ([.ref (ad 0)] : List Value).toArray below meth c H locs 0 0 (MQ below (QI D cy ad A r (SM z) V') ([.ref (ad 0)] : List Value).toArray s 0 0 A) (F0 m pc ls st) := ⟨_, rfl⟩
  have L34 : ∀ (n34 : Nat) (V : Vt) (v1 : Int32) (v2 : Int32), f_X9_undo_34 N n34 V v1 v2 = some (r, V') → G 34 V [(0, .ref (ad 0)), (1, .int v1), (2, .int v2)] [] := by
    intro n34
    induction n34 with
    | zero => intro V v1 v2 h; rw [f_X9_undo_34] at h; cases h
    | succ n34 ih34 =>
      intro V v1 v2 h
      rw [hG]
      intro H locs ls w hl
      rw [f_X9_undo_34] at h
      refine lv_iload_n hx hb dX9_undo_34 rfl (lv_at hl 2 rfl) ?_
      refine lv_bipush (v := 32) hx hb dX9_undo_35 (by decide) ?_
      refine lv_icmp_ge (tgt := 60) hx hb dX9_undo_37 (by decide) (fun c17 => ?_) (fun c17 => ?_)
      · replace h := ifT h c17
        refine lv_aload_n hx hb dX9_undo_60 rfl (lv_at hl 0 rfl) ?_
        refine lv_aload_n hx hb dX9_undo_61 rfl (lv_at hl 0 rfl) ?_
        refine m_get X w 0 sm_n0 sm_k0 ci9 29 (by decide) (fvR sm_k0 rfl sm_p29) rfl fl_X9_66 dX9_undo_62 ?_
        refine lv_iload_n hx hb dX9_undo_65 rfl (lv_at hl 1 rfl) ?_
        refine lv_bipush (v := 32) hx hb dX9_undo_66 (by decide) ?_
        refine lv_iadd hx hb dX9_undo_68 ?_
        obtain ⟨g18, h⟩ := cki h
        refine m_iald X w 13 sm_n13 sm_k13 sm_z13 g18 dX9_undo_69 ?_
        obtain ⟨r19, V21, q20, h⟩ := obi h
        refine m_ci (m_rV (As := [.int (V.2.1 13 (v1 + (32 : Int32)).toNatClampNeg)]) (rest := []) X w hl mi_X9_good ml_X9_14 0 sm_n0 sm_k0 rfl (c_X9_good l D cy ad A Kc C0 N z V (V.2.1 13 (v1 + (32 : Int32)).toNatClampNeg) r19 V21 q20) ⟨⟨rfl, rfl, Nat.le_of_ble_eq_true rfl, Nat.le_of_ble_eq_true rfl⟩, Nat.le_of_ble_eq_true rfl, Nat.le_of_ble_eq_true rfl⟩ rfl rfl (Nat.le_of_ble_eq_true rfl) dX9_undo_70) w (fun H locs w => ?_)
        obtain ⟨rfl, rfl⟩ := reti h
        exact m_ri X w hr hlocks dX9_undo_73
      · replace h := ifF h c17
        refine lv_aload_n hx hb dX9_undo_40 rfl (lv_at hl 0 rfl) ?_
        refine m_get X w 0 sm_n0 sm_k0 ci9 2 (by decide) (fvR sm_k0 rfl sm_p2) rfl fl_X9_28 dX9_undo_41 ?_
        refine lv_iload_n hx hb dX9_undo_44 rfl (lv_at hl 2 rfl) ?_
        refine lv_aload_n hx hb dX9_undo_45 rfl (lv_at hl 0 rfl) ?_
        refine m_get X w 0 sm_n0 sm_k0 ci9 29 (by decide) (fvR sm_k0 rfl sm_p29) rfl fl_X9_66 dX9_undo_46 ?_
        refine lv_iload_n hx hb dX9_undo_49 rfl (lv_at hl 1 rfl) ?_
        refine lv_iload_n hx hb dX9_undo_50 rfl (lv_at hl 2 rfl) ?_
        refine lv_iadd hx hb dX9_undo_51 ?_
        obtain ⟨g22, h⟩ := cki h
        refine m_iald X w 13 sm_n13 sm_k13 sm_z13 g22 dX9_undo_52 ?_
        obtain ⟨g23, h⟩ := cki h
        refine m_iast X w 2 sm_n2 sm_k2 sm_z2 g23 dX9_undo_53 (fun V24 H locs eV24 w => ?_)
        replace h := bdi h _ eV24
        obtain ⟨x25, ex25⟩ : ∃ y : Int32, y = v2 + (1 : Int32) := ⟨_, rfl⟩
        replace h := bdi h _ ex25
        refine lv_iinc (v := x25) (lv' := [(2, .int x25), (0, .ref (ad 0)), (1, .int v1)]) hx hb dX9_undo_54 hl (k := 2) rfl (by rw [ex25]; rfl) (by decide) rfl (fun ls hl => ?_)
        refine lv_goto (tgt := 34) hx hb dX9_undo_57 (by decide) ?_
        have g := ih34 V24 v1 x25 h
        rw [hG] at g
        exact g H locs ls w (lv_sub hl [1, 2, 0] rfl)
  rw [f_X9_undo] at h
  refine lv_aload_n hx hb dX9_undo_0 rfl (lv_at hl 0 rfl) ?_
  refine m_get X w 0 sm_n0 sm_k0 ci9 31 (by decide) (fvI sm_k0 rfl) rfl fl_X9_11 dX9_undo_1 ?_
  refine lv_if_ne (tgt := 14) hx hb dX9_undo_4 (by decide) (fun c14 => ?_) (fun c14 => ?_)
  · replace h := ifF h c14
    refine lv_aload_n hx hb dX9_undo_14 rfl (lv_at hl 0 rfl) ?_
    refine lv_dup hx hb dX9_undo_15 rfl ?_
    refine m_get X w 0 sm_n0 sm_k0 ci9 31 (by decide) (fvI sm_k0 rfl) rfl fl_X9_11 dX9_undo_16 ?_
    refine lv_iconst (v := 1) hx hb dX9_undo_19 (by decide) ?_
    refine lv_isub hx hb dX9_undo_20 ?_
    refine m_put X w 0 sm_n0 sm_k0 ci9 31 (by decide) rfl rfl rfl rfl rfl fl_X9_11 dX9_undo_21 (fun V15 H locs eV15 w => ?_)
    replace h := bdi h _ eV15
    refine lv_bipush (v := 33) hx hb dX9_undo_24 (by decide) ?_
    refine lv_aload_n hx hb dX9_undo_26 rfl (lv_at hl 0 rfl) ?_
    refine m_get X w 0 sm_n0 sm_k0 ci9 31 (by decide) (fvI sm_k0 rfl) rfl fl_X9_11 dX9_undo_27 ?_
    refine lv_imul hx hb dX9_undo_30 ?_
    refine lv_topi (fun x16 ex16 => ?_)
    replace h := bdi h _ ex16
    refine lv_istore_n (lv' := [(1, .int x16), (0, .ref (ad 0))]) hx hb dX9_undo_31 rfl hl (by decide) rfl (fun ls hl => ?_)
    refine lv_iconst (v := 0) hx hb dX9_undo_32 (by decide) ?_
    refine lv_istore_n (lv' := [(2, .int (0 : Int32)), (1, .int x16), (0, .ref (ad 0))]) hx hb dX9_undo_33 rfl hl (by decide) rfl (fun ls hl => ?_)
    have g := L34 N V15 x16 (0 : Int32) h
    rw [hG] at g
    exact g H locs ls w (lv_sub hl [2, 1, 0] rfl)
  · replace h := ifT h c14
    refine lv_aload_n hx hb dX9_undo_7 rfl (lv_at hl 0 rfl) ?_
    refine lv_bipush (v := (-3)) hx hb dX9_undo_8 (by decide) ?_
    obtain ⟨r26, V28, q27, h⟩ := obi h
    refine m_ci (m_rV (As := [.int (-3 : Int32)]) (rest := []) X w hl mi_X9_refuses ml_X9_109 0 sm_n0 sm_k0 rfl (c_X9_refuses l D cy ad A Kc C0 N z V (-3 : Int32) r26 V28 q27) ⟨⟨rfl, rfl, Nat.le_of_ble_eq_true rfl, Nat.le_of_ble_eq_true rfl⟩, Nat.le_of_ble_eq_true rfl, Nat.le_of_ble_eq_true rfl⟩ rfl rfl (Nat.le_of_ble_eq_true rfl) dX9_undo_10) w (fun H locs w => ?_)
    obtain ⟨rfl, rfl⟩ := reti h
    exact m_ri X w hr hlocks dX9_undo_13
def f_X9_goodOr (N : Nat) (V : Vt) (a1 : Int32) : Option (Int32 × Vt) := if 0 ≤ a1 then ob (f_X9_good N V a1) (fun r8 V10 => some (r8, V10)) else ob (f_X9_refuses N V a1) (fun r11 V13 => some (r11, V13))
set_option maxHeartbeats 4000000 in
set_option maxRecDepth 100000 in
theorem c_X9_goodOr (l : Launch) (D : va_G) (cy : Nat → ClassId) (ad : Nat → Nat) (A : Nat → Prop) (Kc : State → Prop) (C0 : Cx ad A Kc) (N : Nat) (z : Nat) (V : Vt) (a1 : Int32) (r : Int32) (V' : Vt) (h : f_X9_goodOr N V a1 = some (r, V')) : Met l yX9_goodOr (mw yX9_goodOr cX9_goodOr 2 (some .int)) { frames := 1, cells := 0, slots := 0, locals := 21 } (PreM D cy ad Kc (SM z) V [.ref (ad 0), .int a1]) (QI D cy ad A r (SM z) V') 0 0 A := by
  refine ct_go C0 (own := RX9) rfl (by decide) rfl ?_
  intro p e s m below meth c ls H locs X hr hlocks hnm hl w
  have hx := X.1.1
  have hb := X.1.2.1
  have hown := X.2.1
  have hts := X.2.2.1
  have hl : lv_has ls 2 [(0, .ref (ad 0)), (1, .int a1)] := hl
  rw [f_X9_goodOr] at h
  refine lv_iload_n hx hb dX9_goodOr_0 rfl (lv_at hl 1 rfl) ?_
  refine lv_if_ge (tgt := 12) hx hb dX9_goodOr_1 (by decide) (fun c7 => ?_) (fun c7 => ?_)
  · replace h := ifT h c7
    refine lv_aload_n hx hb dX9_goodOr_12 rfl (lv_at hl 0 rfl) ?_
    refine lv_iload_n hx hb dX9_goodOr_13 rfl (lv_at hl 1 rfl) ?_
    obtain ⟨r8, V10, q9, h⟩ := obi h
    refine m_ci (m_rV (As := [.int a1]) (rest := []) X w hl mi_X9_good ml_X9_14 0 sm_n0 sm_k0 rfl (c_X9_good l D cy ad A Kc C0 N z V a1 r8 V10 q9) ⟨⟨rfl, rfl, Nat.le_of_ble_eq_true rfl, Nat.le_of_ble_eq_true rfl⟩, Nat.le_of_ble_eq_true rfl, Nat.le_of_ble_eq_true rfl⟩ rfl rfl (Nat.le_of_ble_eq_true rfl) dX9_goodOr_14) w (fun H locs w => ?_)
    obtain ⟨rfl, rfl⟩ := reti h
    exact m_ri X w hr hlocks dX9_goodOr_17
  · replace h := ifF h c7
    refine lv_aload_n hx hb dX9_goodOr_4 rfl (lv_at hl 0 rfl) ?_
    refine lv_iload_n hx hb dX9_goodOr_5 rfl (lv_at hl 1 rfl) ?_
    obtain ⟨r11, V13, q12, h⟩ := obi h
    refine m_ci (m_rV (As := [.int a1]) (rest := []) X w hl mi_X9_refuses ml_X9_109 0 sm_n0 sm_k0 rfl (c_X9_refuses l D cy ad A Kc C0 N z V a1 r11 V13 q12) ⟨⟨rfl, rfl, Nat.le_of_ble_eq_true rfl, Nat.le_of_ble_eq_true rfl⟩, Nat.le_of_ble_eq_true rfl, Nat.le_of_ble_eq_true rfl⟩ rfl rfl (Nat.le_of_ble_eq_true rfl) dX9_goodOr_6) w (fun H locs w => ?_)
    refine lv_goto (tgt := 17) hx hb dX9_goodOr_9 (by decide) ?_
    obtain ⟨rfl, rfl⟩ := reti h
    exact m_ri X w hr hlocks dX9_goodOr_17
def f_X9_passesKept (N : Nat) (V : Vt) : Option (Int32 × Vt) := ck (31 : Int32) 5715 (if (V.2.1 2 (31 : Int32).toNatClampNeg) = (999 : Int32) then some ((-3 : Int32), V) else obv (f_X9_keeps N V (3 : Int32)) (fun V13 => ck (31 : Int32) 5715 (ck (31 : Int32) 5715 (bd (sA V13 2 (31 : Int32).toNatClampNeg ((V13.2.1 2 (31 : Int32).toNatClampNeg) + (1 : Int32))) (fun V16 => ck (31 : Int32) 5715 (some (V16.2.1 2 (31 : Int32).toNatClampNeg, V16)))))))
set_option maxHeartbeats 4000000 in
set_option maxRecDepth 100000 in
theorem c_X9_passesKept (l : Launch) (D : va_G) (cy : Nat → ClassId) (ad : Nat → Nat) (A : Nat → Prop) (Kc : State → Prop) (C0 : Cx ad A Kc) (N : Nat) (z : Nat) (V : Vt) (r : Int32) (V' : Vt) (h : f_X9_passesKept N V = some (r, V')) : Met l yX9_passesKept (mw yX9_passesKept cX9_passesKept 1 (some .int)) { frames := 1, cells := 0, slots := 0, locals := 23 } (PreM D cy ad Kc (SM z) V [.ref (ad 0)]) (QI D cy ad A r (SM z) V') 0 0 A := by
  refine ct_go C0 (own := RX9) rfl (by decide) rfl ?_
  intro p e s m below meth c ls H locs X hr hlocks hnm hl w
  have hx := X.1.1
  have hb := X.1.2.1
  have hown := X.2.1
  have hts := X.2.2.1
  have hl : lv_has ls 1 [(0, .ref (ad 0))] := hl
  rw [f_X9_passesKept] at h
  refine lv_aload_n hx hb dX9_passesKept_0 rfl (lv_at hl 0 rfl) ?_
  refine m_get X w 0 sm_n0 sm_k0 ci9 2 (by decide) (fvR sm_k0 rfl sm_p2) rfl fl_X9_28 dX9_passesKept_1 ?_
  refine lv_bipush (v := 31) hx hb dX9_passesKept_4 (by decide) ?_
  obtain ⟨g9, h⟩ := cki h
  refine m_iald X w 2 sm_n2 sm_k2 sm_z2 g9 dX9_passesKept_6 ?_
  refine lv_sipush (v := 999) hx hb dX9_passesKept_7 (by decide) ?_
  refine lv_icmp_ne (tgt := 16) hx hb dX9_passesKept_10 (by decide) (fun c10 => ?_) (fun c10 => ?_)
  · replace h := ifF h c10
    refine lv_aload_n hx hb dX9_passesKept_16 rfl (lv_at hl 0 rfl) ?_
    refine lv_iconst (v := 3) hx hb dX9_passesKept_17 (by decide) ?_
    obtain ⟨V13, q12, h⟩ := obvi h
    refine m_cv (m_rV (As := [.int (3 : Int32)]) (rest := []) X w hl mi_X9_keeps ml_X9_325 0 sm_n0 sm_k0 rfl (c_X9_keeps l D cy ad A Kc C0 N z V (3 : Int32) V13 q12) ⟨⟨rfl, rfl, Nat.le_of_ble_eq_true rfl, Nat.le_of_ble_eq_true rfl⟩, Nat.le_of_ble_eq_true rfl, Nat.le_of_ble_eq_true rfl⟩ rfl rfl (Nat.le_of_ble_eq_true rfl) dX9_passesKept_18) w (fun H locs w => ?_)
    refine lv_aload_n hx hb dX9_passesKept_21 rfl (lv_at hl 0 rfl) ?_
    refine m_get X w 0 sm_n0 sm_k0 ci9 2 (by decide) (fvR sm_k0 rfl sm_p2) rfl fl_X9_28 dX9_passesKept_22 ?_
    refine lv_bipush (v := 31) hx hb dX9_passesKept_25 (by decide) ?_
    refine lv_dup2_11 hx hb dX9_passesKept_27 rfl rfl ?_
    obtain ⟨g14, h⟩ := cki h
    refine m_iald X w 2 sm_n2 sm_k2 sm_z2 g14 dX9_passesKept_28 ?_
    refine lv_iconst (v := 1) hx hb dX9_passesKept_29 (by decide) ?_
    refine lv_iadd hx hb dX9_passesKept_30 ?_
    obtain ⟨g15, h⟩ := cki h
    refine m_iast X w 2 sm_n2 sm_k2 sm_z2 g15 dX9_passesKept_31 (fun V16 H locs eV16 w => ?_)
    replace h := bdi h _ eV16
    refine lv_aload_n hx hb dX9_passesKept_32 rfl (lv_at hl 0 rfl) ?_
    refine m_get X w 0 sm_n0 sm_k0 ci9 2 (by decide) (fvR sm_k0 rfl sm_p2) rfl fl_X9_28 dX9_passesKept_33 ?_
    refine lv_bipush (v := 31) hx hb dX9_passesKept_36 (by decide) ?_
    obtain ⟨g17, h⟩ := cki h
    refine m_iald X w 2 sm_n2 sm_k2 sm_z2 g17 dX9_passesKept_38 ?_
    obtain ⟨rfl, rfl⟩ := reti h
    exact m_ri X w hr hlocks dX9_passesKept_39
  · replace h := ifT h c10
    refine lv_bipush (v := (-3)) hx hb dX9_passesKept_13 (by decide) ?_
    obtain ⟨rfl, rfl⟩ := reti h
    exact m_ri X w hr hlocks dX9_passesKept_15
def f_X9_laysBalance_62 (N : Nat) (K18 : Vt → Int32 → Int32 → Option Vt) (V : Vt) (v1 : Int32) (v2 : Int32) : Option Vt := bd (v2 + (1 : Int32)) (fun x20 => K18 V v1 x20)
def f_X9_laysBalance_60 (N : Nat) (K18 : Vt → Int32 → Int32 → Option Vt) (V : Vt) (v1 : Int32) (v2 : Int32) (s0 : Int32) (s1 : Int32) (s2 : Int32) : Option Vt := ck s2 1024 (bd (sA V 16 s2.toNatClampNeg (s1 + s0)) (fun V25 => f_X9_laysBalance_62 N K18 V25 v1 v2))
def f_X9_laysBalance_18 (N : Nat) (K2 : Vt → Int32 → Option Vt) : Nat → Vt → Int32 → Int32 → Option Vt
  | 0, _, _, _ => none
  | n + 1, V, v1, v2 => if (10 : Int32) ≤ v2 then bd (v1 + (1 : Int32)) (fun x16 => K2 V x16) else ob1 (f_X9_isIn N v1 v2) (fun r17 => if r17 = 0 then f_X9_laysBalance_62 N (f_X9_laysBalance_18 N K2 n) V v1 v2 else ck v1 1024 (if (5 : Int32) ≤ v2 then ck v2 10 (f_X9_laysBalance_60 N (f_X9_laysBalance_18 N K2 n) V v1 v2 (-(V.2.1 15 v2.toNatClampNeg)) (V.2.1 16 v1.toNatClampNeg) v1) else ck v2 10 (f_X9_laysBalance_60 N (f_X9_laysBalance_18 N K2 n) V v1 v2 (V.2.1 15 v2.toNatClampNeg) (V.2.1 16 v1.toNatClampNeg) v1)))
def f_X9_laysBalance_2 (N : Nat) : Nat → Vt → Int32 → Option Vt
  | 0, _, _ => none
  | n + 1, V, v1 => if (1024 : Int32) ≤ v1 then some V else ck v1 1024 (bd (sA V 16 v1.toNatClampNeg (0 : Int32)) (fun V14 => f_X9_laysBalance_18 N (f_X9_laysBalance_2 N n) N V14 v1 (0 : Int32)))
def f_X9_laysBalance (N : Nat) (V : Vt) : Option Vt := f_X9_laysBalance_2 N N V (0 : Int32)
set_option maxHeartbeats 4000000 in
set_option maxRecDepth 100000 in
theorem c_X9_laysBalance (l : Launch) (D : va_G) (cy : Nat → ClassId) (ad : Nat → Nat) (A : Nat → Prop) (Kc : State → Prop) (C0 : Cx ad A Kc) (N : Nat) (z : Nat) (V : Vt) (V' : Vt) (h : f_X9_laysBalance N V = some V') : Met l yX9_laysBalance (mw yX9_laysBalance cX9_laysBalance 3 none) { frames := 1, cells := 0, slots := 0, locals := 21 } (PreM D cy ad Kc (SM z) V [.ref (ad 0)]) (QV D cy ad A (SM z) V') 0 0 A := by
  refine ct_go C0 (own := RX9) rfl (by decide) rfl ?_
  intro p e s m below meth c ls H locs X hr hlocks hnm hl w
  have hx := X.1.1
  have hb := X.1.2.1
  have hown := X.2.1
  have hts := X.2.2.1
  have hl : lv_has ls 3 [(0, .ref (ad 0))] := hl
  obtain ⟨G, hG⟩ : ∃ G : Nat → Vt → List (Nat × Value) → List Value → Prop, G = fun pc V lv st => ∀ (H : Heap) (locs : List Loc) (ls : Array Slot), Wd D cy ad A s.heap (SM z) V H locs → lv_has ls 3 lv → W p l e { frames := 1, cells := 0, slots := 0, locals := 21 } s m ([.ref (ad 0)] : List Value).toArray below meth c H locs 0 0 (MQ below (QV D cy ad A (SM z) V') ([.ref (ad 0)] : List Value).toArray s 0 0 A) (F0 m pc ls st) := ⟨_, rfl⟩
  have L2 : ∀ (n2 : Nat) (V : Vt) (v1 : Int32), f_X9_laysBalance_2 N n2 V v1 = some V' → G 2 V [(0, .ref (ad 0)), (1, .int v1)] [] := by
    intro n2
    induction n2 with
    | zero => intro V v1 h; rw [f_X9_laysBalance_2] at h; cases h
    | succ n2 ih2 =>
      have L18 : ∀ (n18 : Nat) (V : Vt) (v1 : Int32) (v2 : Int32), f_X9_laysBalance_18 N (f_X9_laysBalance_2 N n2) n18 V v1 v2 = some V' → G 18 V [(0, .ref (ad 0)), (1, .int v1), (2, .int v2)] [] := by
        intro n18
        induction n18 with
        | zero => intro V v1 v2 h; rw [f_X9_laysBalance_18] at h; cases h
        | succ n18 ih18 =>
          have B62 : ∀ (V : Vt) (v1 : Int32) (v2 : Int32), f_X9_laysBalance_62 N (f_X9_laysBalance_18 N (f_X9_laysBalance_2 N n2) n18) V v1 v2 = some V' → G 62 V [(0, .ref (ad 0)), (1, .int v1), (2, .int v2)] [] := by
            intro V v1 v2 h
            rw [hG]
            intro H locs ls w hl
            rw [f_X9_laysBalance_62] at h
            obtain ⟨x20, ex20⟩ : ∃ y : Int32, y = v2 + (1 : Int32) := ⟨_, rfl⟩
            replace h := bdi h _ ex20
            refine lv_iinc (v := x20) (lv' := [(2, .int x20), (0, .ref (ad 0)), (1, .int v1)]) hx hb dX9_laysBalance_62 hl (k := 2) rfl (by rw [ex20]; rfl) (by decide) rfl (fun ls hl => ?_)
            refine lv_goto (tgt := 18) hx hb dX9_laysBalance_65 (by decide) ?_
            have g := ih18 V v1 x20 h
            rw [hG] at g
            exact g H locs ls w (lv_sub hl [1, 2, 0] rfl)
          have B60 : ∀ (V : Vt) (v1 : Int32) (v2 : Int32) (s0 : Int32) (s1 : Int32) (s2 : Int32), f_X9_laysBalance_60 N (f_X9_laysBalance_18 N (f_X9_laysBalance_2 N n2) n18) V v1 v2 s0 s1 s2 = some V' → G 60 V [(0, .ref (ad 0)), (1, .int v1), (2, .int v2)] [.int s0, .int s1, .int s2, .ref (ad 16)] := by
            intro V v1 v2 s0 s1 s2 h
            rw [hG]
            intro H locs ls w hl
            rw [f_X9_laysBalance_60] at h
            refine lv_iadd hx hb dX9_laysBalance_60 ?_
            obtain ⟨g24, h⟩ := cki h
            refine m_iast X w 16 sm_n16 sm_k16 sm_z16 g24 dX9_laysBalance_61 (fun V25 H locs eV25 w => ?_)
            replace h := bdi h _ eV25
            have g := B62 V25 v1 v2 h
            rw [hG] at g
            exact g H locs ls w (lv_sub hl [0, 1, 2] rfl)
          intro V v1 v2 h
          rw [hG]
          intro H locs ls w hl
          rw [f_X9_laysBalance_18] at h
          refine lv_iload_n hx hb dX9_laysBalance_18 rfl (lv_at hl 2 rfl) ?_
          refine lv_bipush (v := 10) hx hb dX9_laysBalance_19 (by decide) ?_
          refine lv_icmp_ge (tgt := 68) hx hb dX9_laysBalance_21 (by decide) (fun c15 => ?_) (fun c15 => ?_)
          · replace h := ifT h c15
            obtain ⟨x16, ex16⟩ : ∃ y : Int32, y = v1 + (1 : Int32) := ⟨_, rfl⟩
            replace h := bdi h _ ex16
            refine lv_iinc (v := x16) (lv' := [(1, .int x16), (0, .ref (ad 0)), (2, .int v2)]) hx hb dX9_laysBalance_68 hl (k := 1) rfl (by rw [ex16]; rfl) (by decide) rfl (fun ls hl => ?_)
            refine lv_goto (tgt := 2) hx hb dX9_laysBalance_71 (by decide) ?_
            have g := ih2 V x16 h
            rw [hG] at g
            exact g H locs ls w (lv_sub hl [1, 0] rfl)
          · replace h := ifF h c15
            refine lv_iload_n hx hb dX9_laysBalance_24 rfl (lv_at hl 1 rfl) ?_
            refine lv_iload_n hx hb dX9_laysBalance_25 rfl (lv_at hl 2 rfl) ?_
            obtain ⟨r17, q18, h⟩ := ob1i h
            refine m_ci (m_rS (As := [.int v1, .int v2]) (rest := []) X w hl mi_X9_isIn ml_X9_119 (c_X9_isIn l D cy ad A Kc C0 N z V v1 v2 r17 q18) ⟨⟨rfl, rfl, Nat.le_of_ble_eq_true rfl, Nat.le_of_ble_eq_true rfl⟩, Nat.le_of_ble_eq_true rfl, Nat.le_of_ble_eq_true rfl⟩ rfl rfl (Nat.le_of_ble_eq_true rfl) dX9_laysBalance_26) w (fun H locs w => ?_)
            refine lv_if_eq (tgt := 62) hx hb dX9_laysBalance_29 (by decide) (fun c19 => ?_) (fun c19 => ?_)
            · replace h := ifT h c19
              have g := B62 V v1 v2 h
              rw [hG] at g
              exact g H locs ls w (lv_sub hl [0, 1, 2] rfl)
            · replace h := ifF h c19
              refine lv_aload_n hx hb dX9_laysBalance_32 rfl (lv_at hl 0 rfl) ?_
              refine m_get X w 0 sm_n0 sm_k0 ci9 33 (by decide) (fvR sm_k0 rfl sm_p33) rfl fl_X9_75 dX9_laysBalance_33 ?_
              refine lv_iload_n hx hb dX9_laysBalance_36 rfl (lv_at hl 1 rfl) ?_
              refine lv_dup2_11 hx hb dX9_laysBalance_37 rfl rfl ?_
              obtain ⟨g21, h⟩ := cki h
              refine m_iald X w 16 sm_n16 sm_k16 sm_z16 g21 dX9_laysBalance_38 ?_
              refine lv_iload_n hx hb dX9_laysBalance_39 rfl (lv_at hl 2 rfl) ?_
              refine lv_iconst (v := 5) hx hb dX9_laysBalance_40 (by decide) ?_
              refine lv_icmp_ge (tgt := 53) hx hb dX9_laysBalance_41 (by decide) (fun c22 => ?_) (fun c22 => ?_)
              · replace h := ifT h c22
                refine lv_aload_n hx hb dX9_laysBalance_53 rfl (lv_at hl 0 rfl) ?_
                refine m_get X w 0 sm_n0 sm_k0 ci9 32 (by decide) (fvR sm_k0 rfl sm_p32) rfl fl_X9_72 dX9_laysBalance_54 ?_
                refine lv_iload_n hx hb dX9_laysBalance_57 rfl (lv_at hl 2 rfl) ?_
                obtain ⟨g23, h⟩ := cki h
                refine m_iald X w 15 sm_n15 sm_k15 sm_z15 g23 dX9_laysBalance_58 ?_
                refine lv_ineg hx hb dX9_laysBalance_59 ?_
                have g := B60 V v1 v2 (-(V.2.1 15 v2.toNatClampNeg)) (V.2.1 16 v1.toNatClampNeg) v1 h
                rw [hG] at g
                exact g H locs ls w (lv_sub hl [0, 1, 2] rfl)
              · replace h := ifF h c22
                refine lv_aload_n hx hb dX9_laysBalance_44 rfl (lv_at hl 0 rfl) ?_
                refine m_get X w 0 sm_n0 sm_k0 ci9 32 (by decide) (fvR sm_k0 rfl sm_p32) rfl fl_X9_72 dX9_laysBalance_45 ?_
                refine lv_iload_n hx hb dX9_laysBalance_48 rfl (lv_at hl 2 rfl) ?_
                obtain ⟨g26, h⟩ := cki h
                refine m_iald X w 15 sm_n15 sm_k15 sm_z15 g26 dX9_laysBalance_49 ?_
                refine lv_goto (tgt := 60) hx hb dX9_laysBalance_50 (by decide) ?_
                have g := B60 V v1 v2 (V.2.1 15 v2.toNatClampNeg) (V.2.1 16 v1.toNatClampNeg) v1 h
                rw [hG] at g
                exact g H locs ls w (lv_sub hl [0, 1, 2] rfl)
      intro V v1 h
      rw [hG]
      intro H locs ls w hl
      rw [f_X9_laysBalance_2] at h
      refine lv_iload_n hx hb dX9_laysBalance_2 rfl (lv_at hl 1 rfl) ?_
      refine lv_sipush (v := 1024) hx hb dX9_laysBalance_3 (by decide) ?_
      refine lv_icmp_ge (tgt := 74) hx hb dX9_laysBalance_6 (by decide) (fun c12 => ?_) (fun c12 => ?_)
      · replace h := ifT h c12
        obtain rfl := Option.some.inj h
        exact m_rv X w hr hlocks dX9_laysBalance_74
      · replace h := ifF h c12
        refine lv_aload_n hx hb dX9_laysBalance_9 rfl (lv_at hl 0 rfl) ?_
        refine m_get X w 0 sm_n0 sm_k0 ci9 33 (by decide) (fvR sm_k0 rfl sm_p33) rfl fl_X9_75 dX9_laysBalance_10 ?_
        refine lv_iload_n hx hb dX9_laysBalance_13 rfl (lv_at hl 1 rfl) ?_
        refine lv_iconst (v := 0) hx hb dX9_laysBalance_14 (by decide) ?_
        obtain ⟨g13, h⟩ := cki h
        refine m_iast X w 16 sm_n16 sm_k16 sm_z16 g13 dX9_laysBalance_15 (fun V14 H locs eV14 w => ?_)
        replace h := bdi h _ eV14
        refine lv_iconst (v := 0) hx hb dX9_laysBalance_16 (by decide) ?_
        refine lv_istore_n (lv' := [(2, .int (0 : Int32)), (0, .ref (ad 0)), (1, .int v1)]) hx hb dX9_laysBalance_17 rfl hl (by decide) rfl (fun ls hl => ?_)
        have g := L18 N V14 v1 (0 : Int32) h
        rw [hG] at g
        exact g H locs ls w (lv_sub hl [1, 2, 0] rfl)
  rw [f_X9_laysBalance] at h
  refine lv_iconst (v := 0) hx hb dX9_laysBalance_0 (by decide) ?_
  refine lv_istore_n (lv' := [(1, .int (0 : Int32)), (0, .ref (ad 0))]) hx hb dX9_laysBalance_1 rfl hl (by decide) rfl (fun ls hl => ?_)
  have g := L2 N V (0 : Int32) h
  rw [hG] at g
  exact g H locs ls w (lv_sub hl [1, 0] rfl)
def f_X9_heapCost (N : Nat) (a1 : Int32) : Option Int32 := ob1 (f_X9_ones N a1) (fun r5 => ob1 (f_X9_areBoth N a1) (fun r7 => if r7 = 0 then some (r5 - (0 : Int32)) else some (r5 - (1 : Int32))))
set_option maxHeartbeats 4000000 in
set_option maxRecDepth 100000 in
theorem c_X9_heapCost (l : Launch) (D : va_G) (cy : Nat → ClassId) (ad : Nat → Nat) (A : Nat → Prop) (Kc : State → Prop) (C0 : Cx ad A Kc) (N : Nat) (z : Nat) (V : Vt) (a1 : Int32) (r : Int32) (h : f_X9_heapCost N a1 = some r) : Met l yX9_heapCost (mw yX9_heapCost cX9_heapCost 2 (some .int)) { frames := 1, cells := 0, slots := 0, locals := 22 } (PreM D cy ad Kc (SM z) V [.ref (ad 0), .int a1]) (QI D cy ad A r (SM z) V) 0 0 A := by
  refine ct_go C0 (own := RX9) rfl (by decide) rfl ?_
  intro p e s m below meth c ls H locs X hr hlocks hnm hl w
  have hx := X.1.1
  have hb := X.1.2.1
  have hown := X.2.1
  have hts := X.2.2.1
  have hl : lv_has ls 2 [(0, .ref (ad 0)), (1, .int a1)] := hl
  rw [f_X9_heapCost] at h
  refine lv_iload_n hx hb dX9_heapCost_0 rfl (lv_at hl 1 rfl) ?_
  obtain ⟨r5, q6, h⟩ := ob1i h
  refine m_ci (m_rS (As := [.int a1]) (rest := []) X w hl mi_X9_ones ml_X9_349 (c_X9_ones l D cy ad A Kc C0 N z V a1 r5 q6) ⟨⟨rfl, rfl, Nat.le_of_ble_eq_true rfl, Nat.le_of_ble_eq_true rfl⟩, Nat.le_of_ble_eq_true rfl, Nat.le_of_ble_eq_true rfl⟩ rfl rfl (Nat.le_of_ble_eq_true rfl) dX9_heapCost_1) w (fun H locs w => ?_)
  refine lv_iload_n hx hb dX9_heapCost_4 rfl (lv_at hl 1 rfl) ?_
  obtain ⟨r7, q8, h⟩ := ob1i h
  refine m_ci (m_rS (As := [.int a1]) (rest := [.int r5]) X w hl mi_X9_areBoth ml_X9_352 (c_X9_areBoth l D cy ad A Kc C0 N z V a1 r7 q8) ⟨⟨rfl, rfl, Nat.le_of_ble_eq_true rfl, Nat.le_of_ble_eq_true rfl⟩, Nat.le_of_ble_eq_true rfl, Nat.le_of_ble_eq_true rfl⟩ rfl rfl (Nat.le_of_ble_eq_true rfl) dX9_heapCost_5) w (fun H locs w => ?_)
  refine lv_if_eq (tgt := 15) hx hb dX9_heapCost_8 (by decide) (fun c9 => ?_) (fun c9 => ?_)
  · replace h := ifT h c9
    refine lv_iconst (v := 0) hx hb dX9_heapCost_15 (by decide) ?_
    refine lv_isub hx hb dX9_heapCost_16 ?_
    obtain rfl := Option.some.inj h
    exact m_ri X w hr hlocks dX9_heapCost_17
  · replace h := ifF h c9
    refine lv_iconst (v := 1) hx hb dX9_heapCost_11 (by decide) ?_
    refine lv_goto (tgt := 16) hx hb dX9_heapCost_12 (by decide) ?_
    refine lv_isub hx hb dX9_heapCost_16 ?_
    obtain rfl := Option.some.inj h
    exact m_ri X w hr hlocks dX9_heapCost_17
def f_X9_isNothingOff_27 (N : Nat) (V : Vt) (K4 : Int32 → Int32 → Option Int32) (v2 : Int32) (s0 : Int32) : Option Int32 := bd (v2 + (1 : Int32)) (fun x11 => K4 s0 x11)
def f_X9_isNothingOff_4 (N : Nat) (V : Vt) : Nat → Int32 → Int32 → Option Int32
  | 0, _, _ => none
  | n + 1, v1, v2 => if (10 : Int32) ≤ v2 then cb v1 (some v1) else if v1 = 0 then cb v1 (some v1) else ob1 (f_X9_offBy N V v2) (fun r8 => if r8 = 0 then f_X9_isNothingOff_27 N V (f_X9_isNothingOff_4 N V n) v2 (1 : Int32) else f_X9_isNothingOff_27 N V (f_X9_isNothingOff_4 N V n) v2 (0 : Int32))
def f_X9_isNothingOff (N : Nat) (V : Vt) : Option Int32 := f_X9_isNothingOff_4 N V N (1 : Int32) (0 : Int32)
set_option maxHeartbeats 4000000 in
set_option maxRecDepth 100000 in
theorem c_X9_isNothingOff (l : Launch) (D : va_G) (cy : Nat → ClassId) (ad : Nat → Nat) (A : Nat → Prop) (Kc : State → Prop) (C0 : Cx ad A Kc) (N : Nat) (z : Nat) (V : Vt) (r : Int32) (h : f_X9_isNothingOff N V = some r) : Met l yX9_isNothingOff (mw yX9_isNothingOff cX9_isNothingOff 3 (some .boolean)) { frames := 1, cells := 0, slots := 0, locals := 24 } (PreM D cy ad Kc (SM z) V [.ref (ad 0)]) (QI D cy ad A r (SM z) V) 0 0 A := by
  refine ct_go C0 (own := RX9) rfl (by decide) rfl ?_
  intro p e s m below meth c ls H locs X hr hlocks hnm hl w
  have hx := X.1.1
  have hb := X.1.2.1
  have hown := X.2.1
  have hts := X.2.2.1
  have hl : lv_has ls 3 [(0, .ref (ad 0))] := hl
  obtain ⟨G, hG⟩ : ∃ G : Nat → Vt → List (Nat × Value) → List Value → Prop, G = fun pc V lv st => ∀ (H : Heap) (locs : List Loc) (ls : Array Slot), Wd D cy ad A s.heap (SM z) V H locs → lv_has ls 3 lv → W p l e { frames := 1, cells := 0, slots := 0, locals := 24 } s m ([.ref (ad 0)] : List Value).toArray below meth c H locs 0 0 (MQ below (QI D cy ad A r (SM z) V) ([.ref (ad 0)] : List Value).toArray s 0 0 A) (F0 m pc ls st) := ⟨_, rfl⟩
  have L4 : ∀ (n4 : Nat) (v1 : Int32) (v2 : Int32), f_X9_isNothingOff_4 N V n4 v1 v2 = some r → G 4 V [(0, .ref (ad 0)), (1, .int v1), (2, .int v2)] [] := by
    intro n4
    induction n4 with
    | zero => intro v1 v2 h; rw [f_X9_isNothingOff_4] at h; cases h
    | succ n4 ih4 =>
      have B27 : ∀ (v2 : Int32) (s0 : Int32), f_X9_isNothingOff_27 N V (f_X9_isNothingOff_4 N V n4) v2 s0 = some r → G 27 V [(0, .ref (ad 0)), (2, .int v2)] [.int s0] := by
        intro v2 s0 h
        rw [hG]
        intro H locs ls w hl
        rw [f_X9_isNothingOff_27] at h
        refine lv_istore_n (lv' := [(1, .int s0), (0, .ref (ad 0)), (2, .int v2)]) hx hb dX9_isNothingOff_27 rfl hl (by decide) rfl (fun ls hl => ?_)
        obtain ⟨x11, ex11⟩ : ∃ y : Int32, y = v2 + (1 : Int32) := ⟨_, rfl⟩
        replace h := bdi h _ ex11
        refine lv_iinc (v := x11) (lv' := [(2, .int x11), (1, .int s0), (0, .ref (ad 0))]) hx hb dX9_isNothingOff_28 hl (k := 2) rfl (by rw [ex11]; rfl) (by decide) rfl (fun ls hl => ?_)
        refine lv_goto (tgt := 4) hx hb dX9_isNothingOff_31 (by decide) ?_
        have g := ih4 s0 x11 h
        rw [hG] at g
        exact g H locs ls w (lv_sub hl [2, 1, 0] rfl)
      intro v1 v2 h
      rw [hG]
      intro H locs ls w hl
      rw [f_X9_isNothingOff_4] at h
      refine lv_iload_n hx hb dX9_isNothingOff_4 rfl (lv_at hl 2 rfl) ?_
      refine lv_bipush (v := 10) hx hb dX9_isNothingOff_5 (by decide) ?_
      refine lv_icmp_ge (tgt := 34) hx hb dX9_isNothingOff_7 (by decide) (fun c4 => ?_) (fun c4 => ?_)
      · replace h := ifT h c4
        refine lv_iload_n hx hb dX9_isNothingOff_34 rfl (lv_at hl 1 rfl) ?_
        obtain ⟨g5, h⟩ := cbi h
        obtain rfl := Option.some.inj h
        exact m_rz X w hr (nb01 g5) hlocks dX9_isNothingOff_35
      · replace h := ifF h c4
        refine lv_iload_n hx hb dX9_isNothingOff_10 rfl (lv_at hl 1 rfl) ?_
        refine lv_if_eq (tgt := 34) hx hb dX9_isNothingOff_11 (by decide) (fun c6 => ?_) (fun c6 => ?_)
        · replace h := ifT h c6
          refine lv_iload_n hx hb dX9_isNothingOff_34 rfl (lv_at hl 1 rfl) ?_
          obtain ⟨g7, h⟩ := cbi h
          obtain rfl := Option.some.inj h
          exact m_rz X w hr (nb01 g7) hlocks dX9_isNothingOff_35
        · replace h := ifF h c6
          refine lv_aload_n hx hb dX9_isNothingOff_14 rfl (lv_at hl 0 rfl) ?_
          refine lv_iload_n hx hb dX9_isNothingOff_15 rfl (lv_at hl 2 rfl) ?_
          obtain ⟨r8, q9, h⟩ := ob1i h
          refine m_ci (m_rV (As := [.int v2]) (rest := []) X w hl mi_X9_offBy ml_X9_132 0 sm_n0 sm_k0 rfl (c_X9_offBy l D cy ad A Kc C0 N z V v2 r8 q9) ⟨⟨rfl, rfl, Nat.le_of_ble_eq_true rfl, Nat.le_of_ble_eq_true rfl⟩, Nat.le_of_ble_eq_true rfl, Nat.le_of_ble_eq_true rfl⟩ rfl rfl (Nat.le_of_ble_eq_true rfl) dX9_isNothingOff_16) w (fun H locs w => ?_)
          refine lv_if_ne (tgt := 26) hx hb dX9_isNothingOff_19 (by decide) (fun c10 => ?_) (fun c10 => ?_)
          · replace h := ifF h c10
            refine lv_iconst (v := 0) hx hb dX9_isNothingOff_26 (by decide) ?_
            have g := B27 v2 (0 : Int32) h
            rw [hG] at g
            exact g H locs ls w (lv_sub hl [0, 2] rfl)
          · replace h := ifT h c10
            refine lv_iconst (v := 1) hx hb dX9_isNothingOff_22 (by decide) ?_
            refine lv_goto (tgt := 27) hx hb dX9_isNothingOff_23 (by decide) ?_
            have g := B27 v2 (1 : Int32) h
            rw [hG] at g
            exact g H locs ls w (lv_sub hl [0, 2] rfl)
  rw [f_X9_isNothingOff] at h
  refine lv_iconst (v := 1) hx hb dX9_isNothingOff_0 (by decide) ?_
  refine lv_istore_n (lv' := [(1, .int (1 : Int32)), (0, .ref (ad 0))]) hx hb dX9_isNothingOff_1 rfl hl (by decide) rfl (fun ls hl => ?_)
  refine lv_iconst (v := 0) hx hb dX9_isNothingOff_2 (by decide) ?_
  refine lv_istore_n (lv' := [(2, .int (0 : Int32)), (1, .int (1 : Int32)), (0, .ref (ad 0))]) hx hb dX9_isNothingOff_3 rfl hl (by decide) rfl (fun ls hl => ?_)
  have g := L4 N (1 : Int32) (0 : Int32) h
  rw [hG] at g
  exact g H locs ls w (lv_sub hl [2, 1, 0] rfl)
def f_X9_isOnRing (N : Nat) (V : Vt) (a1 : Int32) : Option Int32 := ob1 (f_X9_ringOf N V a1) (fun r3 => if (25 : Int32) < r3 then some (0 : Int32) else some (1 : Int32))
set_option maxHeartbeats 4000000 in
set_option maxRecDepth 100000 in
theorem c_X9_isOnRing (l : Launch) (D : va_G) (cy : Nat → ClassId) (ad : Nat → Nat) (A : Nat → Prop) (Kc : State → Prop) (C0 : Cx ad A Kc) (N : Nat) (z : Nat) (V : Vt) (a1 : Int32) (r : Int32) (h : f_X9_isOnRing N V a1 = some r) : Met l yX9_isOnRing (mw yX9_isOnRing cX9_isOnRing 2 (some .boolean)) { frames := 1, cells := 0, slots := 0, locals := 23 } (PreM D cy ad Kc (SM z) V [.ref (ad 0), .int a1]) (QI D cy ad A r (SM z) V) 0 0 A := by
  refine ct_go C0 (own := RX9) rfl (by decide) rfl ?_
  intro p e s m below meth c ls H locs X hr hlocks hnm hl w
  have hx := X.1.1
  have hb := X.1.2.1
  have hown := X.2.1
  have hts := X.2.2.1
  have hl : lv_has ls 2 [(0, .ref (ad 0)), (1, .int a1)] := hl
  rw [f_X9_isOnRing] at h
  refine lv_aload_n hx hb dX9_isOnRing_0 rfl (lv_at hl 0 rfl) ?_
  refine lv_iload_n hx hb dX9_isOnRing_1 rfl (lv_at hl 1 rfl) ?_
  obtain ⟨r3, q4, h⟩ := ob1i h
  refine m_ci (m_rV (As := [.int a1]) (rest := []) X w hl mi_X9_ringOf ml_X9_379 0 sm_n0 sm_k0 rfl (c_X9_ringOf l D cy ad A Kc C0 N z V a1 r3 q4) ⟨⟨rfl, rfl, Nat.le_of_ble_eq_true rfl, Nat.le_of_ble_eq_true rfl⟩, Nat.le_of_ble_eq_true rfl, Nat.le_of_ble_eq_true rfl⟩ rfl rfl (Nat.le_of_ble_eq_true rfl) dX9_isOnRing_2) w (fun H locs w => ?_)
  refine lv_bipush (v := 25) hx hb dX9_isOnRing_5 (by decide) ?_
  refine lv_icmp_gt (tgt := 14) hx hb dX9_isOnRing_7 (by decide) (fun c5 => ?_) (fun c5 => ?_)
  · replace h := ifT h c5
    refine lv_iconst (v := 0) hx hb dX9_isOnRing_14 (by decide) ?_
    obtain rfl := Option.some.inj h
    exact m_rz X w hr rfl hlocks dX9_isOnRing_15
  · replace h := ifF h c5
    refine lv_iconst (v := 1) hx hb dX9_isOnRing_10 (by decide) ?_
    refine lv_goto (tgt := 15) hx hb dX9_isOnRing_11 (by decide) ?_
    obtain rfl := Option.some.inj h
    exact m_rz X w hr rfl hlocks dX9_isOnRing_15
def f_X9_isAllSo_68 (N : Nat) (V : Vt) (K4 : Int32 → Int32 → Option Int32) (v2 : Int32) (s0 : Int32) : Option Int32 := bd (v2 + (1 : Int32)) (fun x19 => K4 s0 x19)
def f_X9_isAllSo_4 (N : Nat) (V : Vt) : Nat → Int32 → Int32 → Option Int32
  | 0, _, _ => none
  | n + 1, v1, v2 => ck (104 : Int32) 5715 (if (V.2.1 2 (104 : Int32).toNatClampNeg) ≤ v2 then cb v1 (some v1) else if v1 = 0 then cb v1 (some v1) else ck ((47 : Int32) + ((3 : Int32) * v2)) 5715 (ck (((47 : Int32) + ((3 : Int32) * v2)) + (1 : Int32)) 5715 (ob1 (f_X9_behind N V (V.2.1 2 ((47 : Int32) + ((3 : Int32) * v2)).toNatClampNeg) (V.2.1 2 (((47 : Int32) + ((3 : Int32) * v2)) + (1 : Int32)).toNatClampNeg)) (fun r15 => ck (((47 : Int32) + ((3 : Int32) * v2)) + (2 : Int32)) 5715 (if r15 = (V.2.1 2 (((47 : Int32) + ((3 : Int32) * v2)) + (2 : Int32)).toNatClampNeg) then f_X9_isAllSo_68 N V (f_X9_isAllSo_4 N V n) v2 (1 : Int32) else f_X9_isAllSo_68 N V (f_X9_isAllSo_4 N V n) v2 (0 : Int32))))))
def f_X9_isAllSo (N : Nat) (V : Vt) : Option Int32 := f_X9_isAllSo_4 N V N (1 : Int32) (0 : Int32)
set_option maxHeartbeats 4000000 in
set_option maxRecDepth 100000 in
theorem c_X9_isAllSo (l : Launch) (D : va_G) (cy : Nat → ClassId) (ad : Nat → Nat) (A : Nat → Prop) (Kc : State → Prop) (C0 : Cx ad A Kc) (N : Nat) (z : Nat) (V : Vt) (r : Int32) (h : f_X9_isAllSo N V = some r) : Met l yX9_isAllSo (mw yX9_isAllSo cX9_isAllSo 3 (some .boolean)) { frames := 1, cells := 0, slots := 0, locals := 24 } (PreM D cy ad Kc (SM z) V [.ref (ad 0)]) (QI D cy ad A r (SM z) V) 0 0 A := by
  refine ct_go C0 (own := RX9) rfl (by decide) rfl ?_
  intro p e s m below meth c ls H locs X hr hlocks hnm hl w
  have hx := X.1.1
  have hb := X.1.2.1
  have hown := X.2.1
  have hts := X.2.2.1
  have hl : lv_has ls 3 [(0, .ref (ad 0))] := hl
  obtain ⟨G, hG⟩ : ∃ G : Nat → Vt → List (Nat × Value) → List Value → Prop, G = fun pc V lv st => ∀ (H : Heap) (locs : List Loc) (ls : Array Slot), Wd D cy ad A s.heap (SM z) V H locs → lv_has ls 3 lv → W p l e { frames := 1, cells := 0, slots := 0, locals := 24 } s m ([.ref (ad 0)] : List Value).toArray below meth c H locs 0 0 (MQ below (QI D cy ad A r (SM z) V) ([.ref (ad 0)] : List Value).toArray s 0 0 A) (F0 m pc ls st) := ⟨_, rfl⟩
  have L4 : ∀ (n4 : Nat) (v1 : Int32) (v2 : Int32), f_X9_isAllSo_4 N V n4 v1 v2 = some r → G 4 V [(0, .ref (ad 0)), (1, .int v1), (2, .int v2)] [] := by
    intro n4
    induction n4 with
    | zero => intro v1 v2 h; rw [f_X9_isAllSo_4] at h; cases h
    | succ n4 ih4 =>
      have B68 : ∀ (v2 : Int32) (s0 : Int32), f_X9_isAllSo_68 N V (f_X9_isAllSo_4 N V n4) v2 s0 = some r → G 68 V [(0, .ref (ad 0)), (2, .int v2)] [.int s0] := by
        intro v2 s0 h
        rw [hG]
        intro H locs ls w hl
        rw [f_X9_isAllSo_68] at h
        refine lv_istore_n (lv' := [(1, .int s0), (0, .ref (ad 0)), (2, .int v2)]) hx hb dX9_isAllSo_68 rfl hl (by decide) rfl (fun ls hl => ?_)
        obtain ⟨x19, ex19⟩ : ∃ y : Int32, y = v2 + (1 : Int32) := ⟨_, rfl⟩
        replace h := bdi h _ ex19
        refine lv_iinc (v := x19) (lv' := [(2, .int x19), (1, .int s0), (0, .ref (ad 0))]) hx hb dX9_isAllSo_69 hl (k := 2) rfl (by rw [ex19]; rfl) (by decide) rfl (fun ls hl => ?_)
        refine lv_goto (tgt := 4) hx hb dX9_isAllSo_72 (by decide) ?_
        have g := ih4 s0 x19 h
        rw [hG] at g
        exact g H locs ls w (lv_sub hl [2, 1, 0] rfl)
      intro v1 v2 h
      rw [hG]
      intro H locs ls w hl
      rw [f_X9_isAllSo_4] at h
      refine lv_iload_n hx hb dX9_isAllSo_4 rfl (lv_at hl 2 rfl) ?_
      refine lv_aload_n hx hb dX9_isAllSo_5 rfl (lv_at hl 0 rfl) ?_
      refine m_get X w 0 sm_n0 sm_k0 ci9 2 (by decide) (fvR sm_k0 rfl sm_p2) rfl fl_X9_28 dX9_isAllSo_6 ?_
      refine lv_bipush (v := 104) hx hb dX9_isAllSo_9 (by decide) ?_
      obtain ⟨g8, h⟩ := cki h
      refine m_iald X w 2 sm_n2 sm_k2 sm_z2 g8 dX9_isAllSo_11 ?_
      refine lv_icmp_ge (tgt := 75) hx hb dX9_isAllSo_12 (by decide) (fun c9 => ?_) (fun c9 => ?_)
      · replace h := ifT h c9
        refine lv_iload_n hx hb dX9_isAllSo_75 rfl (lv_at hl 1 rfl) ?_
        obtain ⟨g10, h⟩ := cbi h
        obtain rfl := Option.some.inj h
        exact m_rz X w hr (nb01 g10) hlocks dX9_isAllSo_76
      · replace h := ifF h c9
        refine lv_iload_n hx hb dX9_isAllSo_15 rfl (lv_at hl 1 rfl) ?_
        refine lv_if_eq (tgt := 75) hx hb dX9_isAllSo_16 (by decide) (fun c11 => ?_) (fun c11 => ?_)
        · replace h := ifT h c11
          refine lv_iload_n hx hb dX9_isAllSo_75 rfl (lv_at hl 1 rfl) ?_
          obtain ⟨g12, h⟩ := cbi h
          obtain rfl := Option.some.inj h
          exact m_rz X w hr (nb01 g12) hlocks dX9_isAllSo_76
        · replace h := ifF h c11
          refine lv_aload_n hx hb dX9_isAllSo_19 rfl (lv_at hl 0 rfl) ?_
          refine lv_aload_n hx hb dX9_isAllSo_20 rfl (lv_at hl 0 rfl) ?_
          refine m_get X w 0 sm_n0 sm_k0 ci9 2 (by decide) (fvR sm_k0 rfl sm_p2) rfl fl_X9_28 dX9_isAllSo_21 ?_
          refine lv_bipush (v := 47) hx hb dX9_isAllSo_24 (by decide) ?_
          refine lv_iconst (v := 3) hx hb dX9_isAllSo_26 (by decide) ?_
          refine lv_iload_n hx hb dX9_isAllSo_27 rfl (lv_at hl 2 rfl) ?_
          refine lv_imul hx hb dX9_isAllSo_28 ?_
          refine lv_iadd hx hb dX9_isAllSo_29 ?_
          obtain ⟨g13, h⟩ := cki h
          refine m_iald X w 2 sm_n2 sm_k2 sm_z2 g13 dX9_isAllSo_30 ?_
          refine lv_aload_n hx hb dX9_isAllSo_31 rfl (lv_at hl 0 rfl) ?_
          refine m_get X w 0 sm_n0 sm_k0 ci9 2 (by decide) (fvR sm_k0 rfl sm_p2) rfl fl_X9_28 dX9_isAllSo_32 ?_
          refine lv_bipush (v := 47) hx hb dX9_isAllSo_35 (by decide) ?_
          refine lv_iconst (v := 3) hx hb dX9_isAllSo_37 (by decide) ?_
          refine lv_iload_n hx hb dX9_isAllSo_38 rfl (lv_at hl 2 rfl) ?_
          refine lv_imul hx hb dX9_isAllSo_39 ?_
          refine lv_iadd hx hb dX9_isAllSo_40 ?_
          refine lv_iconst (v := 1) hx hb dX9_isAllSo_41 (by decide) ?_
          refine lv_iadd hx hb dX9_isAllSo_42 ?_
          obtain ⟨g14, h⟩ := cki h
          refine m_iald X w 2 sm_n2 sm_k2 sm_z2 g14 dX9_isAllSo_43 ?_
          obtain ⟨r15, q16, h⟩ := ob1i h
          refine m_ci (m_rV (As := [.int (V.2.1 2 ((47 : Int32) + ((3 : Int32) * v2)).toNatClampNeg), .int (V.2.1 2 (((47 : Int32) + ((3 : Int32) * v2)) + (1 : Int32)).toNatClampNeg)]) (rest := []) X w hl mi_X9_behind ml_X9_376 0 sm_n0 sm_k0 rfl (c_X9_behind l D cy ad A Kc C0 N z V (V.2.1 2 ((47 : Int32) + ((3 : Int32) * v2)).toNatClampNeg) (V.2.1 2 (((47 : Int32) + ((3 : Int32) * v2)) + (1 : Int32)).toNatClampNeg) r15 q16) ⟨⟨rfl, rfl, Nat.le_of_ble_eq_true rfl, Nat.le_of_ble_eq_true rfl⟩, Nat.le_of_ble_eq_true rfl, Nat.le_of_ble_eq_true rfl⟩ rfl rfl (Nat.le_of_ble_eq_true rfl) dX9_isAllSo_44) w (fun H locs w => ?_)
          refine lv_aload_n hx hb dX9_isAllSo_47 rfl (lv_at hl 0 rfl) ?_
          refine m_get X w 0 sm_n0 sm_k0 ci9 2 (by decide) (fvR sm_k0 rfl sm_p2) rfl fl_X9_28 dX9_isAllSo_48 ?_
          refine lv_bipush (v := 47) hx hb dX9_isAllSo_51 (by decide) ?_
          refine lv_iconst (v := 3) hx hb dX9_isAllSo_53 (by decide) ?_
          refine lv_iload_n hx hb dX9_isAllSo_54 rfl (lv_at hl 2 rfl) ?_
          refine lv_imul hx hb dX9_isAllSo_55 ?_
          refine lv_iadd hx hb dX9_isAllSo_56 ?_
          refine lv_iconst (v := 2) hx hb dX9_isAllSo_57 (by decide) ?_
          refine lv_iadd hx hb dX9_isAllSo_58 ?_
          obtain ⟨g17, h⟩ := cki h
          refine m_iald X w 2 sm_n2 sm_k2 sm_z2 g17 dX9_isAllSo_59 ?_
          refine lv_icmp_ne (tgt := 67) hx hb dX9_isAllSo_60 (by decide) (fun c18 => ?_) (fun c18 => ?_)
          · replace h := ifF h c18
            refine lv_iconst (v := 0) hx hb dX9_isAllSo_67 (by decide) ?_
            have g := B68 v2 (0 : Int32) h
            rw [hG] at g
            exact g H locs ls w (lv_sub hl [0, 2] rfl)
          · replace h := ifT h c18
            refine lv_iconst (v := 1) hx hb dX9_isAllSo_63 (by decide) ?_
            refine lv_goto (tgt := 68) hx hb dX9_isAllSo_64 (by decide) ?_
            have g := B68 v2 (1 : Int32) h
            rw [hG] at g
            exact g H locs ls w (lv_sub hl [0, 2] rfl)
  rw [f_X9_isAllSo] at h
  refine lv_iconst (v := 1) hx hb dX9_isAllSo_0 (by decide) ?_
  refine lv_istore_n (lv' := [(1, .int (1 : Int32)), (0, .ref (ad 0))]) hx hb dX9_isAllSo_1 rfl hl (by decide) rfl (fun ls hl => ?_)
  refine lv_iconst (v := 0) hx hb dX9_isAllSo_2 (by decide) ?_
  refine lv_istore_n (lv' := [(2, .int (0 : Int32)), (1, .int (1 : Int32)), (0, .ref (ad 0))]) hx hb dX9_isAllSo_3 rfl hl (by decide) rfl (fun ls hl => ?_)
  have g := L4 N (1 : Int32) (0 : Int32) h
  rw [hG] at g
  exact g H locs ls w (lv_sub hl [2, 1, 0] rfl)
def f_X9_mostAlike_87 (N : Nat) (K26 : Vt → Int32 → Int32 → Int32 → Int32 → Option (Int32 × Vt)) (V : Vt) (v1 : Int32) (v2 : Int32) (v3 : Int32) (v4 : Int32) : Option (Int32 × Vt) := bd (v4 + (1 : Int32)) (fun x30 => K26 V v1 v2 v3 x30)
def f_X9_mostAlike_26 (N : Nat) : Nat → Vt → Int32 → Int32 → Int32 → Int32 → Option (Int32 × Vt)
  | 0, _, _, _, _, _ => none
  | n + 1, V, v1, v2, v3, v4 => ck (106 : Int32) 5715 (if (V.2.1 2 (106 : Int32).toNatClampNeg) ≤ v4 then some (v3, V) else ob1 (f_X9_isIn N v1 v4) (fun r19 => if r19 = 0 then f_X9_mostAlike_87 N (f_X9_mostAlike_26 N n) V v1 v2 v3 v4 else ck (((25 : Int32) * v4) + v2) 150 (bd (V.2.1 19 (((25 : Int32) * v4) + v2).toNatClampNeg) (fun x23 => ck x23 26 (ck x23 26 (bd (sA V 20 x23.toNatClampNeg ((V.2.1 20 x23.toNatClampNeg) + (1 : Int32))) (fun V26 => ck x23 26 (ob1 (f_X9_greater N v3 (V26.2.1 20 x23.toNatClampNeg)) (fun r28 => f_X9_mostAlike_87 N (f_X9_mostAlike_26 N n) V26 v1 v2 r28 v4)))))))))
def f_X9_mostAlike_2 (N : Nat) : Nat → Vt → Int32 → Int32 → Int32 → Option (Int32 × Vt)
  | 0, _, _, _, _ => none
  | n + 1, V, v1, v2, v3 => if (25 : Int32) < v3 then f_X9_mostAlike_26 N N V v1 v2 (0 : Int32) (0 : Int32) else ck v3 26 (bd (sA V 20 v3.toNatClampNeg (0 : Int32)) (fun V32 => bd (v3 + (1 : Int32)) (fun x33 => (f_X9_mostAlike_2 N n) V32 v1 v2 x33)))
def f_X9_mostAlike (N : Nat) (V : Vt) (a1 : Int32) (a2 : Int32) : Option (Int32 × Vt) := f_X9_mostAlike_2 N N V a1 a2 (0 : Int32)
set_option maxHeartbeats 4000000 in
set_option maxRecDepth 100000 in
theorem c_X9_mostAlike (l : Launch) (D : va_G) (cy : Nat → ClassId) (ad : Nat → Nat) (A : Nat → Prop) (Kc : State → Prop) (C0 : Cx ad A Kc) (N : Nat) (z : Nat) (V : Vt) (a1 : Int32) (a2 : Int32) (r : Int32) (V' : Vt) (h : f_X9_mostAlike N V a1 a2 = some (r, V')) : Met l yX9_mostAlike (mw yX9_mostAlike cX9_mostAlike 6 (some .int)) { frames := 1, cells := 0, slots := 0, locals := 21 } (PreM D cy ad Kc (SM z) V [.ref (ad 0), .int a1, .int a2]) (QI D cy ad A r (SM z) V') 0 0 A := by
  refine ct_go C0 (own := RX9) rfl (by decide) rfl ?_
  intro p e s m below meth c ls H locs X hr hlocks hnm hl w
  have hx := X.1.1
  have hb := X.1.2.1
  have hown := X.2.1
  have hts := X.2.2.1
  have hl : lv_has ls 6 [(0, .ref (ad 0)), (1, .int a1), (2, .int a2)] := hl
  obtain ⟨G, hG⟩ : ∃ G : Nat → Vt → List (Nat × Value) → List Value → Prop, G = fun pc V lv st => ∀ (H : Heap) (locs : List Loc) (ls : Array Slot), Wd D cy ad A s.heap (SM z) V H locs → lv_has ls 6 lv → W p l e { frames := 1, cells := 0, slots := 0, locals := 21 } s m ([.ref (ad 0), .int a1, .int a2] : List Value).toArray below meth c H locs 0 0 (MQ below (QI D cy ad A r (SM z) V') ([.ref (ad 0), .int a1, .int a2] : List Value).toArray s 0 0 A) (F0 m pc ls st) := ⟨_, rfl⟩
  have L26 : ∀ (n26 : Nat) (V : Vt) (v1 : Int32) (v2 : Int32) (v3 : Int32) (v4 : Int32), f_X9_mostAlike_26 N n26 V v1 v2 v3 v4 = some (r, V') → G 26 V [(0, .ref (ad 0)), (1, .int v1), (2, .int v2), (3, .int v3), (4, .int v4)] [] := by
    intro n26
    induction n26 with
    | zero => intro V v1 v2 v3 v4 h; rw [f_X9_mostAlike_26] at h; cases h
    | succ n26 ih26 =>
      have B87 : ∀ (V : Vt) (v1 : Int32) (v2 : Int32) (v3 : Int32) (v4 : Int32), f_X9_mostAlike_87 N (f_X9_mostAlike_26 N n26) V v1 v2 v3 v4 = some (r, V') → G 87 V [(0, .ref (ad 0)), (1, .int v1), (2, .int v2), (3, .int v3), (4, .int v4)] [] := by
        intro V v1 v2 v3 v4 h
        rw [hG]
        intro H locs ls w hl
        rw [f_X9_mostAlike_87] at h
        obtain ⟨x30, ex30⟩ : ∃ y : Int32, y = v4 + (1 : Int32) := ⟨_, rfl⟩
        replace h := bdi h _ ex30
        refine lv_iinc (v := x30) (lv' := [(4, .int x30), (0, .ref (ad 0)), (1, .int v1), (2, .int v2), (3, .int v3)]) hx hb dX9_mostAlike_87 hl (k := 4) rfl (by rw [ex30]; rfl) (by decide) rfl (fun ls hl => ?_)
        refine lv_goto (tgt := 26) hx hb dX9_mostAlike_90 (by decide) ?_
        have g := ih26 V v1 v2 v3 x30 h
        rw [hG] at g
        exact g H locs ls w (lv_sub hl [1, 2, 3, 4, 0] rfl)
      intro V v1 v2 v3 v4 h
      rw [hG]
      intro H locs ls w hl
      rw [f_X9_mostAlike_26] at h
      refine lv_iload hx hb dX9_mostAlike_26 (lv_at hl 4 rfl) ?_
      refine lv_aload_n hx hb dX9_mostAlike_28 rfl (lv_at hl 0 rfl) ?_
      refine m_get X w 0 sm_n0 sm_k0 ci9 2 (by decide) (fvR sm_k0 rfl sm_p2) rfl fl_X9_28 dX9_mostAlike_29 ?_
      refine lv_bipush (v := 106) hx hb dX9_mostAlike_32 (by decide) ?_
      obtain ⟨g17, h⟩ := cki h
      refine m_iald X w 2 sm_n2 sm_k2 sm_z2 g17 dX9_mostAlike_34 ?_
      refine lv_icmp_ge (tgt := 93) hx hb dX9_mostAlike_35 (by decide) (fun c18 => ?_) (fun c18 => ?_)
      · replace h := ifT h c18
        refine lv_iload_n hx hb dX9_mostAlike_93 rfl (lv_at hl 3 rfl) ?_
        obtain ⟨rfl, rfl⟩ := reti h
        exact m_ri X w hr hlocks dX9_mostAlike_94
      · replace h := ifF h c18
        refine lv_iload_n hx hb dX9_mostAlike_38 rfl (lv_at hl 1 rfl) ?_
        refine lv_iload hx hb dX9_mostAlike_39 (lv_at hl 4 rfl) ?_
        obtain ⟨r19, q20, h⟩ := ob1i h
        refine m_ci (m_rS (As := [.int v1, .int v4]) (rest := []) X w hl mi_X9_isIn ml_X9_119 (c_X9_isIn l D cy ad A Kc C0 N z V v1 v4 r19 q20) ⟨⟨rfl, rfl, Nat.le_of_ble_eq_true rfl, Nat.le_of_ble_eq_true rfl⟩, Nat.le_of_ble_eq_true rfl, Nat.le_of_ble_eq_true rfl⟩ rfl rfl (Nat.le_of_ble_eq_true rfl) dX9_mostAlike_41) w (fun H locs w => ?_)
        refine lv_if_ne (tgt := 50) hx hb dX9_mostAlike_44 (by decide) (fun c21 => ?_) (fun c21 => ?_)
        · replace h := ifF h c21
          refine lv_aload_n hx hb dX9_mostAlike_50 rfl (lv_at hl 0 rfl) ?_
          refine m_get X w 0 sm_n0 sm_k0 ci9 36 (by decide) (fvR sm_k0 rfl sm_p36) rfl fl_X9_84 dX9_mostAlike_51 ?_
          refine lv_bipush (v := 25) hx hb dX9_mostAlike_54 (by decide) ?_
          refine lv_iload hx hb dX9_mostAlike_56 (lv_at hl 4 rfl) ?_
          refine lv_imul hx hb dX9_mostAlike_58 ?_
          refine lv_iload_n hx hb dX9_mostAlike_59 rfl (lv_at hl 2 rfl) ?_
          refine lv_iadd hx hb dX9_mostAlike_60 ?_
          obtain ⟨g22, h⟩ := cki h
          refine m_iald X w 19 sm_n19 sm_k19 sm_z19 g22 dX9_mostAlike_61 ?_
          refine lv_topi (fun x23 ex23 => ?_)
          replace h := bdi h _ ex23
          refine lv_istore (lv' := [(5, .int x23), (0, .ref (ad 0)), (1, .int v1), (2, .int v2), (3, .int v3), (4, .int v4)]) hx hb dX9_mostAlike_62 hl (by decide) rfl (fun ls hl => ?_)
          refine lv_aload_n hx hb dX9_mostAlike_64 rfl (lv_at hl 1 rfl) ?_
          refine m_get X w 0 sm_n0 sm_k0 ci9 37 (by decide) (fvR sm_k0 rfl sm_p37) rfl fl_X9_87 dX9_mostAlike_65 ?_
          refine lv_iload hx hb dX9_mostAlike_68 (lv_at hl 0 rfl) ?_
          refine lv_dup2_11 hx hb dX9_mostAlike_70 rfl rfl ?_
          obtain ⟨g24, h⟩ := cki h
          refine m_iald X w 20 sm_n20 sm_k20 sm_z20 g24 dX9_mostAlike_71 ?_
          refine lv_iconst (v := 1) hx hb dX9_mostAlike_72 (by decide) ?_
          refine lv_iadd hx hb dX9_mostAlike_73 ?_
          obtain ⟨g25, h⟩ := cki h
          refine m_iast X w 20 sm_n20 sm_k20 sm_z20 g25 dX9_mostAlike_74 (fun V26 H locs eV26 w => ?_)
          replace h := bdi h _ eV26
          refine lv_iload_n hx hb dX9_mostAlike_75 rfl (lv_at hl 4 rfl) ?_
          refine lv_aload_n hx hb dX9_mostAlike_76 rfl (lv_at hl 1 rfl) ?_
          refine m_get X w 0 sm_n0 sm_k0 ci9 37 (by decide) (fvR sm_k0 rfl sm_p37) rfl fl_X9_87 dX9_mostAlike_77 ?_
          refine lv_iload hx hb dX9_mostAlike_80 (lv_at hl 0 rfl) ?_
          obtain ⟨g27, h⟩ := cki h
          refine m_iald X w 20 sm_n20 sm_k20 sm_z20 g27 dX9_mostAlike_82 ?_
          obtain ⟨r28, q29, h⟩ := ob1i h
          refine m_ci (m_rS (As := [.int v3, .int (V26.2.1 20 x23.toNatClampNeg)]) (rest := []) X w hl mi_X9_greater ml_X9_394 (c_X9_greater l D cy ad A Kc C0 N z V26 v3 (V26.2.1 20 x23.toNatClampNeg) r28 q29) ⟨⟨rfl, rfl, Nat.le_of_ble_eq_true rfl, Nat.le_of_ble_eq_true rfl⟩, Nat.le_of_ble_eq_true rfl, Nat.le_of_ble_eq_true rfl⟩ rfl rfl (Nat.le_of_ble_eq_true rfl) dX9_mostAlike_83) w (fun H locs w => ?_)
          refine lv_istore_n (lv' := [(3, .int r28), (5, .int x23), (0, .ref (ad 0)), (1, .int v1), (2, .int v2), (4, .int v4)]) hx hb dX9_mostAlike_86 rfl hl (by decide) rfl (fun ls hl => ?_)
          have g := B87 V26 v1 v2 r28 v4 h
          rw [hG] at g
          exact g H locs ls w (lv_sub hl [2, 3, 4, 0, 5] rfl)
        · replace h := ifT h c21
          refine lv_goto (tgt := 87) hx hb dX9_mostAlike_47 (by decide) ?_
          have g := B87 V v1 v2 v3 v4 h
          rw [hG] at g
          exact g H locs ls w (lv_sub hl [0, 1, 2, 3, 4] rfl)
  have L2 : ∀ (n2 : Nat) (V : Vt) (v1 : Int32) (v2 : Int32) (v3 : Int32), f_X9_mostAlike_2 N n2 V v1 v2 v3 = some (r, V') → G 2 V [(0, .ref (ad 0)), (1, .int v1), (2, .int v2), (3, .int v3)] [] := by
    intro n2
    induction n2 with
    | zero => intro V v1 v2 v3 h; rw [f_X9_mostAlike_2] at h; cases h
    | succ n2 ih2 =>
      intro V v1 v2 v3 h
      rw [hG]
      intro H locs ls w hl
      rw [f_X9_mostAlike_2] at h
      refine lv_iload_n hx hb dX9_mostAlike_2 rfl (lv_at hl 3 rfl) ?_
      refine lv_bipush (v := 25) hx hb dX9_mostAlike_3 (by decide) ?_
      refine lv_icmp_gt (tgt := 21) hx hb dX9_mostAlike_5 (by decide) (fun c16 => ?_) (fun c16 => ?_)
      · replace h := ifT h c16
        refine lv_iconst (v := 0) hx hb dX9_mostAlike_21 (by decide) ?_
        refine lv_istore_n (lv' := [(3, .int (0 : Int32)), (0, .ref (ad 0)), (1, .int v1), (2, .int v2)]) hx hb dX9_mostAlike_22 rfl hl (by decide) rfl (fun ls hl => ?_)
        refine lv_iconst (v := 0) hx hb dX9_mostAlike_23 (by decide) ?_
        refine lv_istore (lv' := [(4, .int (0 : Int32)), (3, .int (0 : Int32)), (0, .ref (ad 0)), (1, .int v1), (2, .int v2)]) hx hb dX9_mostAlike_24 hl (by decide) rfl (fun ls hl => ?_)
        have g := L26 N V v1 v2 (0 : Int32) (0 : Int32) h
        rw [hG] at g
        exact g H locs ls w (lv_sub hl [2, 3, 4, 1, 0] rfl)
      · replace h := ifF h c16
        refine lv_aload_n hx hb dX9_mostAlike_8 rfl (lv_at hl 0 rfl) ?_
        refine m_get X w 0 sm_n0 sm_k0 ci9 37 (by decide) (fvR sm_k0 rfl sm_p37) rfl fl_X9_87 dX9_mostAlike_9 ?_
        refine lv_iload_n hx hb dX9_mostAlike_12 rfl (lv_at hl 3 rfl) ?_
        refine lv_iconst (v := 0) hx hb dX9_mostAlike_13 (by decide) ?_
        obtain ⟨g31, h⟩ := cki h
        refine m_iast X w 20 sm_n20 sm_k20 sm_z20 g31 dX9_mostAlike_14 (fun V32 H locs eV32 w => ?_)
        replace h := bdi h _ eV32
        obtain ⟨x33, ex33⟩ : ∃ y : Int32, y = v3 + (1 : Int32) := ⟨_, rfl⟩
        replace h := bdi h _ ex33
        refine lv_iinc (v := x33) (lv' := [(3, .int x33), (0, .ref (ad 0)), (1, .int v1), (2, .int v2)]) hx hb dX9_mostAlike_15 hl (k := 3) rfl (by rw [ex33]; rfl) (by decide) rfl (fun ls hl => ?_)
        refine lv_goto (tgt := 2) hx hb dX9_mostAlike_18 (by decide) ?_
        have g := ih2 V32 v1 v2 x33 h
        rw [hG] at g
        exact g H locs ls w (lv_sub hl [1, 2, 3, 0] rfl)
  rw [f_X9_mostAlike] at h
  refine lv_iconst (v := 0) hx hb dX9_mostAlike_0 (by decide) ?_
  refine lv_istore_n (lv' := [(3, .int (0 : Int32)), (0, .ref (ad 0)), (1, .int a1), (2, .int a2)]) hx hb dX9_mostAlike_1 rfl hl (by decide) rfl (fun ls hl => ?_)
  have g := L2 N V a1 a2 (0 : Int32) h
  rw [hG] at g
  exact g H locs ls w (lv_sub hl [1, 2, 3, 0] rfl)
def f_X9_outOf_65 (N : Nat) (V : Vt) (K4 : Int32 → Int32 → Int32 → Option Int32) (v1 : Int32) (v2 : Int32) (v3 : Int32) : Option Int32 := bd (v3 + (1 : Int32)) (fun x19 => K4 v1 v2 x19)
def f_X9_outOf_4 (N : Nat) (V : Vt) : Nat → Int32 → Int32 → Int32 → Option Int32
  | 0, _, _, _ => none
  | n + 1, v1, v2, v3 => ck (105 : Int32) 5715 (if (V.2.1 2 (105 : Int32).toNatClampNeg) ≤ v3 then some v2 else bd ((71 : Int32) + ((3 : Int32) * v3)) (fun x14 => ck x14 5715 (ob1 (f_X9_isIn N v1 (V.2.1 2 x14.toNatClampNeg)) (fun r16 => if r16 = 0 then f_X9_outOf_65 N V (f_X9_outOf_4 N V n) v1 v2 v3 else ck (x14 + (1 : Int32)) 5715 (ob1 (f_X9_isIn N v1 (V.2.1 2 (x14 + (1 : Int32)).toNatClampNeg)) (fun r21 => if r21 = 0 then ck (x14 + (2 : Int32)) 5715 (bd (v2 + (V.2.1 2 (x14 + (2 : Int32)).toNatClampNeg)) (fun x25 => f_X9_outOf_65 N V (f_X9_outOf_4 N V n) v1 x25 v3)) else f_X9_outOf_65 N V (f_X9_outOf_4 N V n) v1 v2 v3))))))
def f_X9_outOf (N : Nat) (V : Vt) (a1 : Int32) : Option Int32 := f_X9_outOf_4 N V N a1 (0 : Int32) (0 : Int32)
set_option maxHeartbeats 4000000 in
set_option maxRecDepth 100000 in
theorem c_X9_outOf (l : Launch) (D : va_G) (cy : Nat → ClassId) (ad : Nat → Nat) (A : Nat → Prop) (Kc : State → Prop) (C0 : Cx ad A Kc) (N : Nat) (z : Nat) (V : Vt) (a1 : Int32) (r : Int32) (h : f_X9_outOf N V a1 = some r) : Met l yX9_outOf (mw yX9_outOf cX9_outOf 5 (some .int)) { frames := 1, cells := 0, slots := 0, locals := 21 } (PreM D cy ad Kc (SM z) V [.ref (ad 0), .int a1]) (QI D cy ad A r (SM z) V) 0 0 A := by
  refine ct_go C0 (own := RX9) rfl (by decide) rfl ?_
  intro p e s m below meth c ls H locs X hr hlocks hnm hl w
  have hx := X.1.1
  have hb := X.1.2.1
  have hown := X.2.1
  have hts := X.2.2.1
  have hl : lv_has ls 5 [(0, .ref (ad 0)), (1, .int a1)] := hl
  obtain ⟨G, hG⟩ : ∃ G : Nat → Vt → List (Nat × Value) → List Value → Prop, G = fun pc V lv st => ∀ (H : Heap) (locs : List Loc) (ls : Array Slot), Wd D cy ad A s.heap (SM z) V H locs → lv_has ls 5 lv → W p l e { frames := 1, cells := 0, slots := 0, locals := 21 } s m ([.ref (ad 0), .int a1] : List Value).toArray below meth c H locs 0 0 (MQ below (QI D cy ad A r (SM z) V) ([.ref (ad 0), .int a1] : List Value).toArray s 0 0 A) (F0 m pc ls st) := ⟨_, rfl⟩
  have L4 : ∀ (n4 : Nat) (v1 : Int32) (v2 : Int32) (v3 : Int32), f_X9_outOf_4 N V n4 v1 v2 v3 = some r → G 4 V [(0, .ref (ad 0)), (1, .int v1), (2, .int v2), (3, .int v3)] [] := by
    intro n4
    induction n4 with
    | zero => intro v1 v2 v3 h; rw [f_X9_outOf_4] at h; cases h
    | succ n4 ih4 =>
      have B65 : ∀ (v1 : Int32) (v2 : Int32) (v3 : Int32), f_X9_outOf_65 N V (f_X9_outOf_4 N V n4) v1 v2 v3 = some r → G 65 V [(0, .ref (ad 0)), (1, .int v1), (2, .int v2), (3, .int v3)] [] := by
        intro v1 v2 v3 h
        rw [hG]
        intro H locs ls w hl
        rw [f_X9_outOf_65] at h
        obtain ⟨x19, ex19⟩ : ∃ y : Int32, y = v3 + (1 : Int32) := ⟨_, rfl⟩
        replace h := bdi h _ ex19
        refine lv_iinc (v := x19) (lv' := [(3, .int x19), (0, .ref (ad 0)), (1, .int v1), (2, .int v2)]) hx hb dX9_outOf_65 hl (k := 3) rfl (by rw [ex19]; rfl) (by decide) rfl (fun ls hl => ?_)
        refine lv_goto (tgt := 4) hx hb dX9_outOf_68 (by decide) ?_
        have g := ih4 v1 v2 x19 h
        rw [hG] at g
        exact g H locs ls w (lv_sub hl [1, 2, 3, 0] rfl)
      intro v1 v2 v3 h
      rw [hG]
      intro H locs ls w hl
      rw [f_X9_outOf_4] at h
      refine lv_iload_n hx hb dX9_outOf_4 rfl (lv_at hl 3 rfl) ?_
      refine lv_aload_n hx hb dX9_outOf_5 rfl (lv_at hl 0 rfl) ?_
      refine m_get X w 0 sm_n0 sm_k0 ci9 2 (by decide) (fvR sm_k0 rfl sm_p2) rfl fl_X9_28 dX9_outOf_6 ?_
      refine lv_bipush (v := 105) hx hb dX9_outOf_9 (by decide) ?_
      obtain ⟨g12, h⟩ := cki h
      refine m_iald X w 2 sm_n2 sm_k2 sm_z2 g12 dX9_outOf_11 ?_
      refine lv_icmp_ge (tgt := 71) hx hb dX9_outOf_12 (by decide) (fun c13 => ?_) (fun c13 => ?_)
      · replace h := ifT h c13
        refine lv_iload_n hx hb dX9_outOf_71 rfl (lv_at hl 2 rfl) ?_
        obtain rfl := Option.some.inj h
        exact m_ri X w hr hlocks dX9_outOf_72
      · replace h := ifF h c13
        refine lv_bipush (v := 71) hx hb dX9_outOf_15 (by decide) ?_
        refine lv_iconst (v := 3) hx hb dX9_outOf_17 (by decide) ?_
        refine lv_iload_n hx hb dX9_outOf_18 rfl (lv_at hl 3 rfl) ?_
        refine lv_imul hx hb dX9_outOf_19 ?_
        refine lv_iadd hx hb dX9_outOf_20 ?_
        refine lv_topi (fun x14 ex14 => ?_)
        replace h := bdi h _ ex14
        refine lv_istore (lv' := [(4, .int x14), (0, .ref (ad 0)), (1, .int v1), (2, .int v2), (3, .int v3)]) hx hb dX9_outOf_21 hl (by decide) rfl (fun ls hl => ?_)
        refine lv_iload_n hx hb dX9_outOf_23 rfl (lv_at hl 2 rfl) ?_
        refine lv_aload_n hx hb dX9_outOf_24 rfl (lv_at hl 1 rfl) ?_
        refine m_get X w 0 sm_n0 sm_k0 ci9 2 (by decide) (fvR sm_k0 rfl sm_p2) rfl fl_X9_28 dX9_outOf_25 ?_
        refine lv_iload hx hb dX9_outOf_28 (lv_at hl 0 rfl) ?_
        obtain ⟨g15, h⟩ := cki h
        refine m_iald X w 2 sm_n2 sm_k2 sm_z2 g15 dX9_outOf_30 ?_
        obtain ⟨r16, q17, h⟩ := ob1i h
        refine m_ci (m_rS (As := [.int v1, .int (V.2.1 2 x14.toNatClampNeg)]) (rest := []) X w hl mi_X9_isIn ml_X9_119 (c_X9_isIn l D cy ad A Kc C0 N z V v1 (V.2.1 2 x14.toNatClampNeg) r16 q17) ⟨⟨rfl, rfl, Nat.le_of_ble_eq_true rfl, Nat.le_of_ble_eq_true rfl⟩, Nat.le_of_ble_eq_true rfl, Nat.le_of_ble_eq_true rfl⟩ rfl rfl (Nat.le_of_ble_eq_true rfl) dX9_outOf_31) w (fun H locs w => ?_)
        refine lv_if_eq (tgt := 65) hx hb dX9_outOf_34 (by decide) (fun c18 => ?_) (fun c18 => ?_)
        · replace h := ifT h c18
          have g := B65 v1 v2 v3 h
          rw [hG] at g
          exact g H locs ls w (lv_sub hl [1, 2, 3, 4] rfl)
        · replace h := ifF h c18
          refine lv_iload_n hx hb dX9_outOf_37 rfl (lv_at hl 2 rfl) ?_
          refine lv_aload_n hx hb dX9_outOf_38 rfl (lv_at hl 1 rfl) ?_
          refine m_get X w 0 sm_n0 sm_k0 ci9 2 (by decide) (fvR sm_k0 rfl sm_p2) rfl fl_X9_28 dX9_outOf_39 ?_
          refine lv_iload hx hb dX9_outOf_42 (lv_at hl 0 rfl) ?_
          refine lv_iconst (v := 1) hx hb dX9_outOf_44 (by decide) ?_
          refine lv_iadd hx hb dX9_outOf_45 ?_
          obtain ⟨g20, h⟩ := cki h
          refine m_iald X w 2 sm_n2 sm_k2 sm_z2 g20 dX9_outOf_46 ?_
          obtain ⟨r21, q22, h⟩ := ob1i h
          refine m_ci (m_rS (As := [.int v1, .int (V.2.1 2 (x14 + (1 : Int32)).toNatClampNeg)]) (rest := []) X w hl mi_X9_isIn ml_X9_119 (c_X9_isIn l D cy ad A Kc C0 N z V v1 (V.2.1 2 (x14 + (1 : Int32)).toNatClampNeg) r21 q22) ⟨⟨rfl, rfl, Nat.le_of_ble_eq_true rfl, Nat.le_of_ble_eq_true rfl⟩, Nat.le_of_ble_eq_true rfl, Nat.le_of_ble_eq_true rfl⟩ rfl rfl (Nat.le_of_ble_eq_true rfl) dX9_outOf_47) w (fun H locs w => ?_)
          refine lv_if_ne (tgt := 65) hx hb dX9_outOf_50 (by decide) (fun c23 => ?_) (fun c23 => ?_)
          · replace h := ifF h c23
            have g := B65 v1 v2 v3 h
            rw [hG] at g
            exact g H locs ls w (lv_sub hl [1, 2, 3, 4] rfl)
          · replace h := ifT h c23
            refine lv_iload_n hx hb dX9_outOf_53 rfl (lv_at hl 3 rfl) ?_
            refine lv_aload_n hx hb dX9_outOf_54 rfl (lv_at hl 1 rfl) ?_
            refine m_get X w 0 sm_n0 sm_k0 ci9 2 (by decide) (fvR sm_k0 rfl sm_p2) rfl fl_X9_28 dX9_outOf_55 ?_
            refine lv_iload hx hb dX9_outOf_58 (lv_at hl 0 rfl) ?_
            refine lv_iconst (v := 2) hx hb dX9_outOf_60 (by decide) ?_
            refine lv_iadd hx hb dX9_outOf_61 ?_
            obtain ⟨g24, h⟩ := cki h
            refine m_iald X w 2 sm_n2 sm_k2 sm_z2 g24 dX9_outOf_62 ?_
            refine lv_iadd hx hb dX9_outOf_63 ?_
            refine lv_topi (fun x25 ex25 => ?_)
            replace h := bdi h _ ex25
            refine lv_istore_n (lv' := [(2, .int x25), (4, .int x14), (0, .ref (ad 0)), (1, .int v1), (3, .int v3)]) hx hb dX9_outOf_64 rfl hl (by decide) rfl (fun ls hl => ?_)
            have g := B65 v1 x25 v3 h
            rw [hG] at g
            exact g H locs ls w (lv_sub hl [2, 3, 0, 4] rfl)
  rw [f_X9_outOf] at h
  refine lv_iconst (v := 0) hx hb dX9_outOf_0 (by decide) ?_
  refine lv_istore_n (lv' := [(2, .int (0 : Int32)), (0, .ref (ad 0)), (1, .int a1)]) hx hb dX9_outOf_1 rfl hl (by decide) rfl (fun ls hl => ?_)
  refine lv_iconst (v := 0) hx hb dX9_outOf_2 (by decide) ?_
  refine lv_istore_n (lv' := [(3, .int (0 : Int32)), (2, .int (0 : Int32)), (0, .ref (ad 0)), (1, .int a1)]) hx hb dX9_outOf_3 rfl hl (by decide) rfl (fun ls hl => ?_)
  have g := L4 N a1 (0 : Int32) (0 : Int32) h
  rw [hG] at g
  exact g H locs ls w (lv_sub hl [2, 3, 1, 0] rfl)
def f_X9_few_151 (N : Nat) : Nat → Vt → Int32 → Int64 → Int32 → Option (Int64 × Vt)
  | 0, _, _, _, _ => none
  | n + 1, V, v1, v3, v5 => if v1 ≤ v5 then some (v3, V) else ck v5 21 (bd (v3 + (V.2.2.1 22 v5.toNatClampNeg)) (fun x33 => bd (v5 + (1 : Int32)) (fun x34 => (f_X9_few_151 N n) V v1 x33 x34)))
def f_X9_few_67 (N : Nat) (K57 : Vt → Int32 → Int32 → Int32 → Option (Int64 × Vt)) : Nat → Vt → Int32 → Int32 → Int32 → Int32 → Option (Int64 × Vt)
  | 0, _, _, _, _, _ => none
  | n + 1, V, v1, v2, v3, v4 => if v4 < 0 then bd (v3 + (1 : Int32)) (fun x37 => K57 V v1 v2 x37) else ck (v4 + (1 : Int32)) 21 (ck v4 21 (ck (101 : Int32) 5715 (ck (v4 + (1 : Int32)) 21 (bd (sJ V 22 (v4 + (1 : Int32)).toNatClampNeg ((V.2.2.1 22 (v4 + (1 : Int32)).toNatClampNeg) + (((V.2.2.1 22 v4.toNatClampNeg) * ((V.2.1 2 (101 : Int32).toNatClampNeg).toInt64)) / (10 : Int64)))) (fun V42 => ck v4 21 (ck (101 : Int32) 5715 (ck v4 21 (bd (sJ V42 22 v4.toNatClampNeg (((V42.2.2.1 22 v4.toNatClampNeg) * (((10 : Int32) - (V42.2.1 2 (101 : Int32).toNatClampNeg)).toInt64)) / (10 : Int64))) (fun V46 => bd (v4 + (-1 : Int32)) (fun x47 => (f_X9_few_67 N K57 n) V46 v1 v2 v3 x47))))))))))
def f_X9_few_57 (N : Nat) : Nat → Vt → Int32 → Int32 → Int32 → Option (Int64 × Vt)
  | 0, _, _, _, _ => none
  | n + 1, V, v1, v2, v3 => if v2 ≤ v3 then f_X9_few_151 N N V v1 (0 : Int64) (0 : Int32) else bd (v1 - (1 : Int32)) (fun x35 => f_X9_few_67 N (f_X9_few_57 N n) N V v1 v2 v3 x35)
def f_X9_few_48 (N : Nat) (K26 : Vt → Int32 → Int32 → Int32 → Option (Int64 × Vt)) (V : Vt) (v1 : Int32) (v2 : Int32) (v3 : Int32) (s0 : Int64) (s1 : Int32) : Option (Int64 × Vt) := ck s1 21 (bd (sJ V 22 s1.toNatClampNeg s0) (fun V50 => bd (v3 + (1 : Int32)) (fun x51 => K26 V50 v1 v2 x51)))
def f_X9_few_26 (N : Nat) : Nat → Vt → Int32 → Int32 → Int32 → Option (Int64 × Vt)
  | 0, _, _, _, _ => none
  | n + 1, V, v1, v2, v3 => if (20 : Int32) < v3 then f_X9_few_57 N N V v1 v2 (0 : Int32) else if v3 = 0 then f_X9_few_48 N (f_X9_few_26 N n) V v1 v2 v3 (1000000000000 : Int64) v3 else f_X9_few_48 N (f_X9_few_26 N n) V v1 v2 v3 (0 : Int64) v3
def f_X9_few (N : Nat) (V : Vt) (a1 : Int32) (a2 : Int32) : Option (Int64 × Vt) := ob1 (f_X9_lies N a1 (1 : Int32) (20 : Int32)) (fun r23 => if r23 = 0 then some ((-1 : Int64), V) else ob1 (f_X9_lies N a2 (0 : Int32) (99 : Int32)) (fun r26 => if r26 = 0 then some ((-1 : Int64), V) else f_X9_few_26 N N V a1 a2 (0 : Int32)))
set_option maxHeartbeats 4000000 in
set_option maxRecDepth 100000 in
theorem c_X9_few (l : Launch) (D : va_G) (cy : Nat → ClassId) (ad : Nat → Nat) (A : Nat → Prop) (Kc : State → Prop) (C0 : Cx ad A Kc) (N : Nat) (z : Nat) (V : Vt) (a1 : Int32) (a2 : Int32) (r : Int64) (V' : Vt) (h : f_X9_few N V a1 a2 = some (r, V')) : Met l yX9_few (mw yX9_few cX9_few 6 (some .long)) { frames := 1, cells := 0, slots := 0, locals := 22 } (PreM D cy ad Kc (SM z) V [.ref (ad 0), .int a1, .int a2]) (QL D cy ad A r (SM z) V') 0 0 A := by
  refine ct_go C0 (own := RX9) rfl (by decide) rfl ?_
  intro p e s m below meth c ls H locs X hr hlocks hnm hl w
  have hx := X.1.1
  have hb := X.1.2.1
  have hown := X.2.1
  have hts := X.2.2.1
  have hl : lv_has ls 6 [(0, .ref (ad 0)), (1, .int a1), (2, .int a2)] := hl
  obtain ⟨G, hG⟩ : ∃ G : Nat → Vt → List (Nat × Value) → List Value → Prop, G = fun pc V lv st => ∀ (H : Heap) (locs : List Loc) (ls : Array Slot), Wd D cy ad A s.heap (SM z) V H locs → lv_has ls 6 lv → W p l e { frames := 1, cells := 0, slots := 0, locals := 22 } s m ([.ref (ad 0), .int a1, .int a2] : List Value).toArray below meth c H locs 0 0 (MQ below (QL D cy ad A r (SM z) V') ([.ref (ad 0), .int a1, .int a2] : List Value).toArray s 0 0 A) (F0 m pc ls st) := ⟨_, rfl⟩
  have L151 : ∀ (n151 : Nat) (V : Vt) (v1 : Int32) (v3 : Int64) (v5 : Int32), f_X9_few_151 N n151 V v1 v3 v5 = some (r, V') → G 151 V [(0, .ref (ad 0)), (1, .int v1), (3, .long v3), (5, .int v5)] [] := by
    intro n151
    induction n151 with
    | zero => intro V v1 v3 v5 h; rw [f_X9_few_151] at h; cases h
    | succ n151 ih151 =>
      intro V v1 v3 v5 h
      rw [hG]
      intro H locs ls w hl
      rw [f_X9_few_151] at h
      refine lv_iload hx hb dX9_few_151 (lv_at hl 3 rfl) ?_
      refine lv_iload_n hx hb dX9_few_153 rfl (lv_at hl 1 rfl) ?_
      refine lv_icmp_ge (tgt := 173) hx hb dX9_few_154 (by decide) (fun c31 => ?_) (fun c31 => ?_)
      · replace h := ifT h c31
        refine lv_lload_n hx hb dX9_few_173 rfl (lv_at hl 2 rfl) ?_
        obtain ⟨rfl, rfl⟩ := reti h
        exact m_rl X w hr hlocks dX9_few_174
      · replace h := ifF h c31
        refine lv_lload_n hx hb dX9_few_157 rfl (lv_at hl 2 rfl) ?_
        refine lv_aload_n hx hb dX9_few_158 rfl (lv_at hl 0 rfl) ?_
        refine m_get X w 0 sm_n0 sm_k0 ci9 39 (by decide) (fvR sm_k0 rfl sm_p39) rfl fl_X9_93 dX9_few_159 ?_
        refine lv_iload hx hb dX9_few_162 (lv_at hl 3 rfl) ?_
        obtain ⟨g32, h⟩ := cki h
        refine m_lald X w 22 sm_n22 sm_k22 sm_z22 g32 dX9_few_164 ?_
        refine lv_ladd hx hb dX9_few_165 ?_
        refine lv_topl (fun x33 ex33 => ?_)
        replace h := bdi h _ ex33
        refine lv_lstore_n (lv' := [(3, .long x33), (0, .ref (ad 0)), (1, .int v1), (5, .int v5)]) hx hb dX9_few_166 rfl hl (by decide) rfl (fun ls hl => ?_)
        obtain ⟨x34, ex34⟩ : ∃ y : Int32, y = v5 + (1 : Int32) := ⟨_, rfl⟩
        replace h := bdi h _ ex34
        refine lv_iinc (v := x34) (lv' := [(5, .int x34), (3, .long x33), (0, .ref (ad 0)), (1, .int v1)]) hx hb dX9_few_167 hl (k := 3) rfl (by rw [ex34]; rfl) (by decide) rfl (fun ls hl => ?_)
        refine lv_goto (tgt := 151) hx hb dX9_few_170 (by decide) ?_
        have g := ih151 V v1 x33 x34 h
        rw [hG] at g
        exact g H locs ls w (lv_sub hl [2, 3, 1, 0] rfl)
  have L57 : ∀ (n57 : Nat) (V : Vt) (v1 : Int32) (v2 : Int32) (v3 : Int32), f_X9_few_57 N n57 V v1 v2 v3 = some (r, V') → G 57 V [(0, .ref (ad 0)), (1, .int v1), (2, .int v2), (3, .int v3)] [] := by
    intro n57
    induction n57 with
    | zero => intro V v1 v2 v3 h; rw [f_X9_few_57] at h; cases h
    | succ n57 ih57 =>
      have L67 : ∀ (n67 : Nat) (V : Vt) (v1 : Int32) (v2 : Int32) (v3 : Int32) (v4 : Int32), f_X9_few_67 N (f_X9_few_57 N n57) n67 V v1 v2 v3 v4 = some (r, V') → G 67 V [(0, .ref (ad 0)), (1, .int v1), (2, .int v2), (3, .int v3), (4, .int v4)] [] := by
        intro n67
        induction n67 with
        | zero => intro V v1 v2 v3 v4 h; rw [f_X9_few_67] at h; cases h
        | succ n67 ih67 =>
          intro V v1 v2 v3 v4 h
          rw [hG]
          intro H locs ls w hl
          rw [f_X9_few_67] at h
          refine lv_iload hx hb dX9_few_67 (lv_at hl 4 rfl) ?_
          refine lv_if_lt (tgt := 140) hx hb dX9_few_69 (by decide) (fun c36 => ?_) (fun c36 => ?_)
          · replace h := ifT h c36
            obtain ⟨x37, ex37⟩ : ∃ y : Int32, y = v3 + (1 : Int32) := ⟨_, rfl⟩
            replace h := bdi h _ ex37
            refine lv_iinc (v := x37) (lv' := [(3, .int x37), (0, .ref (ad 0)), (1, .int v1), (2, .int v2), (4, .int v4)]) hx hb dX9_few_140 hl (k := 3) rfl (by rw [ex37]; rfl) (by decide) rfl (fun ls hl => ?_)
            refine lv_goto (tgt := 57) hx hb dX9_few_143 (by decide) ?_
            have g := ih57 V v1 v2 x37 h
            rw [hG] at g
            exact g H locs ls w (lv_sub hl [1, 2, 3, 0] rfl)
          · replace h := ifF h c36
            refine lv_aload_n hx hb dX9_few_72 rfl (lv_at hl 0 rfl) ?_
            refine m_get X w 0 sm_n0 sm_k0 ci9 39 (by decide) (fvR sm_k0 rfl sm_p39) rfl fl_X9_93 dX9_few_73 ?_
            refine lv_iload hx hb dX9_few_76 (lv_at hl 4 rfl) ?_
            refine lv_iconst (v := 1) hx hb dX9_few_78 (by decide) ?_
            refine lv_iadd hx hb dX9_few_79 ?_
            refine lv_dup2_11 hx hb dX9_few_80 rfl rfl ?_
            obtain ⟨g38, h⟩ := cki h
            refine m_lald X w 22 sm_n22 sm_k22 sm_z22 g38 dX9_few_81 ?_
            refine lv_aload_n hx hb dX9_few_82 rfl (lv_at hl 0 rfl) ?_
            refine m_get X w 0 sm_n0 sm_k0 ci9 39 (by decide) (fvR sm_k0 rfl sm_p39) rfl fl_X9_93 dX9_few_83 ?_
            refine lv_iload hx hb dX9_few_86 (lv_at hl 4 rfl) ?_
            obtain ⟨g39, h⟩ := cki h
            refine m_lald X w 22 sm_n22 sm_k22 sm_z22 g39 dX9_few_88 ?_
            refine lv_aload_n hx hb dX9_few_89 rfl (lv_at hl 0 rfl) ?_
            refine m_get X w 0 sm_n0 sm_k0 ci9 2 (by decide) (fvR sm_k0 rfl sm_p2) rfl fl_X9_28 dX9_few_90 ?_
            refine lv_bipush (v := 101) hx hb dX9_few_93 (by decide) ?_
            obtain ⟨g40, h⟩ := cki h
            refine m_iald X w 2 sm_n2 sm_k2 sm_z2 g40 dX9_few_95 ?_
            refine lv_i2l hx hb dX9_few_96 rfl ?_
            refine lv_lmul hx hb dX9_few_97 ?_
            refine lv_ldc2 (v := 10) hx hb hown (hts _ kl_X9_416) dX9_few_98 ?_
            refine lv_ldiv hx hb dX9_few_101 (by decide) ?_
            refine lv_ladd hx hb dX9_few_102 ?_
            obtain ⟨g41, h⟩ := cki h
            refine m_last X w 22 sm_n22 sm_k22 sm_z22 g41 dX9_few_103 (fun V42 H locs eV42 w => ?_)
            replace h := bdi h _ eV42
            refine lv_aload_n hx hb dX9_few_104 rfl (lv_at hl 0 rfl) ?_
            refine m_get X w 0 sm_n0 sm_k0 ci9 39 (by decide) (fvR sm_k0 rfl sm_p39) rfl fl_X9_93 dX9_few_105 ?_
            refine lv_iload hx hb dX9_few_108 (lv_at hl 4 rfl) ?_
            refine lv_aload_n hx hb dX9_few_110 rfl (lv_at hl 0 rfl) ?_
            refine m_get X w 0 sm_n0 sm_k0 ci9 39 (by decide) (fvR sm_k0 rfl sm_p39) rfl fl_X9_93 dX9_few_111 ?_
            refine lv_iload hx hb dX9_few_114 (lv_at hl 4 rfl) ?_
            obtain ⟨g43, h⟩ := cki h
            refine m_lald X w 22 sm_n22 sm_k22 sm_z22 g43 dX9_few_116 ?_
            refine lv_bipush (v := 10) hx hb dX9_few_117 (by decide) ?_
            refine lv_aload_n hx hb dX9_few_119 rfl (lv_at hl 0 rfl) ?_
            refine m_get X w 0 sm_n0 sm_k0 ci9 2 (by decide) (fvR sm_k0 rfl sm_p2) rfl fl_X9_28 dX9_few_120 ?_
            refine lv_bipush (v := 101) hx hb dX9_few_123 (by decide) ?_
            obtain ⟨g44, h⟩ := cki h
            refine m_iald X w 2 sm_n2 sm_k2 sm_z2 g44 dX9_few_125 ?_
            refine lv_isub hx hb dX9_few_126 ?_
            refine lv_i2l hx hb dX9_few_127 rfl ?_
            refine lv_lmul hx hb dX9_few_128 ?_
            refine lv_ldc2 (v := 10) hx hb hown (hts _ kl_X9_416) dX9_few_129 ?_
            refine lv_ldiv hx hb dX9_few_132 (by decide) ?_
            obtain ⟨g45, h⟩ := cki h
            refine m_last X w 22 sm_n22 sm_k22 sm_z22 g45 dX9_few_133 (fun V46 H locs eV46 w => ?_)
            replace h := bdi h _ eV46
            obtain ⟨x47, ex47⟩ : ∃ y : Int32, y = v4 + (-1 : Int32) := ⟨_, rfl⟩
            replace h := bdi h _ ex47
            refine lv_iinc (v := x47) (lv' := [(4, .int x47), (0, .ref (ad 0)), (1, .int v1), (2, .int v2), (3, .int v3)]) hx hb dX9_few_134 hl (k := 4) rfl (by rw [ex47]; rfl) (by decide) rfl (fun ls hl => ?_)
            refine lv_goto (tgt := 67) hx hb dX9_few_137 (by decide) ?_
            have g := ih67 V46 v1 v2 v3 x47 h
            rw [hG] at g
            exact g H locs ls w (lv_sub hl [1, 2, 3, 4, 0] rfl)
      intro V v1 v2 v3 h
      rw [hG]
      intro H locs ls w hl
      rw [f_X9_few_57] at h
      refine lv_iload_n hx hb dX9_few_57 rfl (lv_at hl 3 rfl) ?_
      refine lv_iload_n hx hb dX9_few_58 rfl (lv_at hl 2 rfl) ?_
      refine lv_icmp_ge (tgt := 146) hx hb dX9_few_59 (by decide) (fun c30 => ?_) (fun c30 => ?_)
      · replace h := ifT h c30
        refine lv_lconst (v := 0) hx hb dX9_few_146 (by decide) ?_
        refine lv_lstore_n (lv' := [(3, .long (0 : Int64)), (0, .ref (ad 0)), (1, .int v1), (2, .int v2)]) hx hb dX9_few_147 rfl hl (by decide) rfl (fun ls hl => ?_)
        refine lv_iconst (v := 0) hx hb dX9_few_148 (by decide) ?_
        refine lv_istore (lv' := [(5, .int (0 : Int32)), (3, .long (0 : Int64)), (0, .ref (ad 0)), (1, .int v1), (2, .int v2)]) hx hb dX9_few_149 hl (by decide) rfl (fun ls hl => ?_)
        have g := L151 N V v1 (0 : Int64) (0 : Int32) h
        rw [hG] at g
        exact g H locs ls w (lv_sub hl [2, 3, 1, 0] rfl)
      · replace h := ifF h c30
        refine lv_iload_n hx hb dX9_few_62 rfl (lv_at hl 1 rfl) ?_
        refine lv_iconst (v := 1) hx hb dX9_few_63 (by decide) ?_
        refine lv_isub hx hb dX9_few_64 ?_
        refine lv_topi (fun x35 ex35 => ?_)
        replace h := bdi h _ ex35
        refine lv_istore (lv' := [(4, .int x35), (0, .ref (ad 0)), (1, .int v1), (2, .int v2), (3, .int v3)]) hx hb dX9_few_65 hl (by decide) rfl (fun ls hl => ?_)
        have g := L67 N V v1 v2 v3 x35 h
        rw [hG] at g
        exact g H locs ls w (lv_sub hl [1, 2, 3, 4, 0] rfl)
  have L26 : ∀ (n26 : Nat) (V : Vt) (v1 : Int32) (v2 : Int32) (v3 : Int32), f_X9_few_26 N n26 V v1 v2 v3 = some (r, V') → G 26 V [(0, .ref (ad 0)), (1, .int v1), (2, .int v2), (3, .int v3)] [] := by
    intro n26
    induction n26 with
    | zero => intro V v1 v2 v3 h; rw [f_X9_few_26] at h; cases h
    | succ n26 ih26 =>
      have B48 : ∀ (V : Vt) (v1 : Int32) (v2 : Int32) (v3 : Int32) (s0 : Int64) (s1 : Int32), f_X9_few_48 N (f_X9_few_26 N n26) V v1 v2 v3 s0 s1 = some (r, V') → G 48 V [(0, .ref (ad 0)), (1, .int v1), (2, .int v2), (3, .int v3)] [.long s0, .int s1, .ref (ad 22)] := by
        intro V v1 v2 v3 s0 s1 h
        rw [hG]
        intro H locs ls w hl
        rw [f_X9_few_48] at h
        obtain ⟨g49, h⟩ := cki h
        refine m_last X w 22 sm_n22 sm_k22 sm_z22 g49 dX9_few_48 (fun V50 H locs eV50 w => ?_)
        replace h := bdi h _ eV50
        obtain ⟨x51, ex51⟩ : ∃ y : Int32, y = v3 + (1 : Int32) := ⟨_, rfl⟩
        replace h := bdi h _ ex51
        refine lv_iinc (v := x51) (lv' := [(3, .int x51), (0, .ref (ad 0)), (1, .int v1), (2, .int v2)]) hx hb dX9_few_49 hl (k := 3) rfl (by rw [ex51]; rfl) (by decide) rfl (fun ls hl => ?_)
        refine lv_goto (tgt := 26) hx hb dX9_few_52 (by decide) ?_
        have g := ih26 V50 v1 v2 x51 h
        rw [hG] at g
        exact g H locs ls w (lv_sub hl [1, 2, 3, 0] rfl)
      intro V v1 v2 v3 h
      rw [hG]
      intro H locs ls w hl
      rw [f_X9_few_26] at h
      refine lv_iload_n hx hb dX9_few_26 rfl (lv_at hl 3 rfl) ?_
      refine lv_bipush (v := 20) hx hb dX9_few_27 (by decide) ?_
      refine lv_icmp_gt (tgt := 55) hx hb dX9_few_29 (by decide) (fun c29 => ?_) (fun c29 => ?_)
      · replace h := ifT h c29
        refine lv_iconst (v := 0) hx hb dX9_few_55 (by decide) ?_
        refine lv_istore_n (lv' := [(3, .int (0 : Int32)), (0, .ref (ad 0)), (1, .int v1), (2, .int v2)]) hx hb dX9_few_56 rfl hl (by decide) rfl (fun ls hl => ?_)
        have g := L57 N V v1 v2 (0 : Int32) h
        rw [hG] at g
        exact g H locs ls w (lv_sub hl [1, 2, 3, 0] rfl)
      · replace h := ifF h c29
        refine lv_aload_n hx hb dX9_few_32 rfl (lv_at hl 0 rfl) ?_
        refine m_get X w 0 sm_n0 sm_k0 ci9 39 (by decide) (fvR sm_k0 rfl sm_p39) rfl fl_X9_93 dX9_few_33 ?_
        refine lv_iload_n hx hb dX9_few_36 rfl (lv_at hl 3 rfl) ?_
        refine lv_iload_n hx hb dX9_few_37 rfl (lv_at hl 3 rfl) ?_
        refine lv_if_ne (tgt := 47) hx hb dX9_few_38 (by decide) (fun c48 => ?_) (fun c48 => ?_)
        · replace h := ifF h c48
          refine lv_lconst (v := 0) hx hb dX9_few_47 (by decide) ?_
          have g := B48 V v1 v2 v3 (0 : Int64) v3 h
          rw [hG] at g
          exact g H locs ls w (lv_sub hl [0, 1, 2, 3] rfl)
        · replace h := ifT h c48
          refine lv_ldc2 (v := 1000000000000) hx hb hown (hts _ kl_X9_414) dX9_few_41 ?_
          refine lv_goto (tgt := 48) hx hb dX9_few_44 (by decide) ?_
          have g := B48 V v1 v2 v3 (1000000000000 : Int64) v3 h
          rw [hG] at g
          exact g H locs ls w (lv_sub hl [0, 1, 2, 3] rfl)
  rw [f_X9_few] at h
  refine lv_iload_n hx hb dX9_few_0 rfl (lv_at hl 1 rfl) ?_
  refine lv_iconst (v := 1) hx hb dX9_few_1 (by decide) ?_
  refine lv_bipush (v := 20) hx hb dX9_few_2 (by decide) ?_
  obtain ⟨r23, q24, h⟩ := ob1i h
  refine m_ci (m_rS (As := [.int a1, .int (1 : Int32), .int (20 : Int32)]) (rest := []) X w hl mi_X9_lies ml_X9_18 (c_X9_lies l D cy ad A Kc C0 N z V a1 (1 : Int32) (20 : Int32) r23 q24) ⟨⟨rfl, rfl, Nat.le_of_ble_eq_true rfl, Nat.le_of_ble_eq_true rfl⟩, Nat.le_of_ble_eq_true rfl, Nat.le_of_ble_eq_true rfl⟩ rfl rfl (Nat.le_of_ble_eq_true rfl) dX9_few_4) w (fun H locs w => ?_)
  refine lv_if_eq (tgt := 20) hx hb dX9_few_7 (by decide) (fun c25 => ?_) (fun c25 => ?_)
  · replace h := ifT h c25
    refine lv_ldc2 (v := (-1)) hx hb hown (hts _ kl_X9_412) dX9_few_20 ?_
    obtain ⟨rfl, rfl⟩ := reti h
    exact m_rl X w hr hlocks dX9_few_23
  · replace h := ifF h c25
    refine lv_iload_n hx hb dX9_few_10 rfl (lv_at hl 2 rfl) ?_
    refine lv_iconst (v := 0) hx hb dX9_few_11 (by decide) ?_
    refine lv_bipush (v := 99) hx hb dX9_few_12 (by decide) ?_
    obtain ⟨r26, q27, h⟩ := ob1i h
    refine m_ci (m_rS (As := [.int a2, .int (0 : Int32), .int (99 : Int32)]) (rest := []) X w hl mi_X9_lies ml_X9_18 (c_X9_lies l D cy ad A Kc C0 N z V a2 (0 : Int32) (99 : Int32) r26 q27) ⟨⟨rfl, rfl, Nat.le_of_ble_eq_true rfl, Nat.le_of_ble_eq_true rfl⟩, Nat.le_of_ble_eq_true rfl, Nat.le_of_ble_eq_true rfl⟩ rfl rfl (Nat.le_of_ble_eq_true rfl) dX9_few_14) w (fun H locs w => ?_)
    refine lv_if_ne (tgt := 24) hx hb dX9_few_17 (by decide) (fun c28 => ?_) (fun c28 => ?_)
    · replace h := ifF h c28
      refine lv_iconst (v := 0) hx hb dX9_few_24 (by decide) ?_
      refine lv_istore_n (lv' := [(3, .int (0 : Int32)), (0, .ref (ad 0)), (1, .int a1), (2, .int a2)]) hx hb dX9_few_25 rfl hl (by decide) rfl (fun ls hl => ?_)
      have g := L26 N V a1 a2 (0 : Int32) h
      rw [hG] at g
      exact g H locs ls w (lv_sub hl [1, 2, 3, 0] rfl)
    · replace h := ifT h c28
      refine lv_ldc2 (v := (-1)) hx hb hown (hts _ kl_X9_412) dX9_few_20 ?_
      obtain ⟨rfl, rfl⟩ := reti h
      exact m_rl X w hr hlocks dX9_few_23
def f_X9_count_133 (N : Nat) (V : Vt) (v1 : Int32) : Option Int32 := ck (v1 - (6 : Int32)) 7 (some (V.2.1 1 (v1 - (6 : Int32)).toNatClampNeg))
def f_X9_count_166 (N : Nat) (V : Vt) (v1 : Int32) : Option Int32 := ob1 (f_X9_termAt N (v1 - (13 : Int32))) (fun r40 => ck r40 5715 (some (V.2.1 2 r40.toNatClampNeg)))
def f_X9_count (N : Nat) (V : Vt) (a1 : Int32) : Option Int32 := if a1 = (0 : Int32) then ck (103 : Int32) 5715 (some (V.2.1 2 (103 : Int32).toNatClampNeg)) else if a1 = (1 : Int32) then ck (30 : Int32) 5715 (ob1 (f_X9_ones N (V.2.1 2 (30 : Int32).toNatClampNeg)) (fun r19 => some r19)) else if a1 = (2 : Int32) then ck (104 : Int32) 5715 (some (V.2.1 2 (104 : Int32).toNatClampNeg)) else if a1 = (3 : Int32) then ck (105 : Int32) 5715 (some (V.2.1 2 (105 : Int32).toNatClampNeg)) else if a1 = (4 : Int32) then ck (106 : Int32) 5715 (some (V.2.1 2 (106 : Int32).toNatClampNeg)) else if a1 = (5 : Int32) then some (V.1 0 31) else if a1 = (6 : Int32) then some (V.1 0 13) else if a1 = (7 : Int32) then f_X9_count_133 N V a1 else if a1 = (8 : Int32) then f_X9_count_133 N V a1 else if a1 = (9 : Int32) then f_X9_count_133 N V a1 else if a1 = (10 : Int32) then ck (5 : Int32) 7 (some (V.2.1 1 (5 : Int32).toNatClampNeg)) else if a1 = (11 : Int32) then ck (6 : Int32) 7 (some (V.2.1 1 (6 : Int32).toNatClampNeg)) else if a1 = (12 : Int32) then ck (107 : Int32) 5715 (some (V.2.1 2 (107 : Int32).toNatClampNeg)) else if a1 = (13 : Int32) then f_X9_count_166 N V a1 else if a1 = (14 : Int32) then f_X9_count_166 N V a1 else if a1 = (15 : Int32) then f_X9_count_166 N V a1 else some (-1 : Int32)
set_option maxHeartbeats 4000000 in
set_option maxRecDepth 100000 in
theorem c_X9_count (l : Launch) (D : va_G) (cy : Nat → ClassId) (ad : Nat → Nat) (A : Nat → Prop) (Kc : State → Prop) (C0 : Cx ad A Kc) (N : Nat) (z : Nat) (V : Vt) (a1 : Int32) (r : Int32) (h : f_X9_count N V a1 = some r) : Met l yX9_count (mw yX9_count cX9_count 2 (some .int)) { frames := 1, cells := 0, slots := 0, locals := 22 } (PreM D cy ad Kc (SM z) V [.ref (ad 0), .int a1]) (QI D cy ad A r (SM z) V) 0 0 A := by
  refine ct_go C0 (own := RX9) rfl (by decide) rfl ?_
  intro p e s m below meth c ls H locs X hr hlocks hnm hl w
  have hx := X.1.1
  have hb := X.1.2.1
  have hown := X.2.1
  have hts := X.2.2.1
  have hl : lv_has ls 2 [(0, .ref (ad 0)), (1, .int a1)] := hl
  obtain ⟨G, hG⟩ : ∃ G : Nat → Vt → List (Nat × Value) → List Value → Prop, G = fun pc V lv st => ∀ (H : Heap) (locs : List Loc) (ls : Array Slot), Wd D cy ad A s.heap (SM z) V H locs → lv_has ls 2 lv → W p l e { frames := 1, cells := 0, slots := 0, locals := 22 } s m ([.ref (ad 0), .int a1] : List Value).toArray below meth c H locs 0 0 (MQ below (QI D cy ad A r (SM z) V) ([.ref (ad 0), .int a1] : List Value).toArray s 0 0 A) (F0 m pc ls st) := ⟨_, rfl⟩
  have B133 : ∀ (v1 : Int32), f_X9_count_133 N V v1 = some r → G 133 V [(0, .ref (ad 0)), (1, .int v1)] [] := by
    intro v1 h
    rw [hG]
    intro H locs ls w hl
    rw [f_X9_count_133] at h
    refine lv_aload_n hx hb dX9_count_133 rfl (lv_at hl 0 rfl) ?_
    refine m_get X w 0 sm_n0 sm_k0 ci9 1 (by decide) (fvR sm_k0 rfl sm_p1) rfl fl_X9_7 dX9_count_134 ?_
    refine lv_iload_n hx hb dX9_count_137 rfl (lv_at hl 1 rfl) ?_
    refine lv_bipush (v := 6) hx hb dX9_count_138 (by decide) ?_
    refine lv_isub hx hb dX9_count_140 ?_
    obtain ⟨g30, h⟩ := cki h
    refine m_iald X w 1 sm_n1 sm_k1 sm_z1 g30 dX9_count_141 ?_
    obtain rfl := Option.some.inj h
    exact m_ri X w hr hlocks dX9_count_142
  have B166 : ∀ (v1 : Int32), f_X9_count_166 N V v1 = some r → G 166 V [(0, .ref (ad 0)), (1, .int v1)] [] := by
    intro v1 h
    rw [hG]
    intro H locs ls w hl
    rw [f_X9_count_166] at h
    refine lv_aload_n hx hb dX9_count_166 rfl (lv_at hl 0 rfl) ?_
    refine m_get X w 0 sm_n0 sm_k0 ci9 2 (by decide) (fvR sm_k0 rfl sm_p2) rfl fl_X9_28 dX9_count_167 ?_
    refine lv_iload_n hx hb dX9_count_170 rfl (lv_at hl 1 rfl) ?_
    refine lv_bipush (v := 13) hx hb dX9_count_171 (by decide) ?_
    refine lv_isub hx hb dX9_count_173 ?_
    obtain ⟨r40, q41, h⟩ := ob1i h
    refine m_ci (m_rS (As := [.int (v1 - (13 : Int32))]) (rest := [.ref (ad 2)]) X w hl mi_X9_termAt ml_X9_149 (c_X9_termAt l D cy ad A Kc C0 N z V (v1 - (13 : Int32)) r40 q41) ⟨⟨rfl, rfl, Nat.le_of_ble_eq_true rfl, Nat.le_of_ble_eq_true rfl⟩, Nat.le_of_ble_eq_true rfl, Nat.le_of_ble_eq_true rfl⟩ rfl rfl (Nat.le_of_ble_eq_true rfl) dX9_count_174) w (fun H locs w => ?_)
    obtain ⟨g42, h⟩ := cki h
    refine m_iald X w 2 sm_n2 sm_k2 sm_z2 g42 dX9_count_177 ?_
    obtain rfl := Option.some.inj h
    exact m_ri X w hr hlocks dX9_count_178
  rw [f_X9_count] at h
  refine lv_iload_n hx hb dX9_count_0 rfl (lv_at hl 1 rfl) ?_
  rcases Decidable.em (a1 = (0 : Int32)) with c15 | c15
  · replace h := ifT h c15
    refine lv_tableIn (tgt := 80) hx hb dX9_count_1 (by rw [c15]; decide) (by rw [c15]; decide) (by rw [c15]; rfl) (by decide) ?_
    refine lv_aload_n hx hb dX9_count_80 rfl (lv_at hl 0 rfl) ?_
    refine m_get X w 0 sm_n0 sm_k0 ci9 2 (by decide) (fvR sm_k0 rfl sm_p2) rfl fl_X9_28 dX9_count_81 ?_
    refine lv_bipush (v := 103) hx hb dX9_count_84 (by decide) ?_
    obtain ⟨g16, h⟩ := cki h
    refine m_iald X w 2 sm_n2 sm_k2 sm_z2 g16 dX9_count_86 ?_
    obtain rfl := Option.some.inj h
    exact m_ri X w hr hlocks dX9_count_87
  · replace h := ifF h c15
    rcases Decidable.em (a1 = (1 : Int32)) with c17 | c17
    · replace h := ifT h c17
      refine lv_tableIn (tgt := 88) hx hb dX9_count_1 (by rw [c17]; decide) (by rw [c17]; decide) (by rw [c17]; rfl) (by decide) ?_
      refine lv_aload_n hx hb dX9_count_88 rfl (lv_at hl 0 rfl) ?_
      refine m_get X w 0 sm_n0 sm_k0 ci9 2 (by decide) (fvR sm_k0 rfl sm_p2) rfl fl_X9_28 dX9_count_89 ?_
      refine lv_bipush (v := 30) hx hb dX9_count_92 (by decide) ?_
      obtain ⟨g18, h⟩ := cki h
      refine m_iald X w 2 sm_n2 sm_k2 sm_z2 g18 dX9_count_94 ?_
      obtain ⟨r19, q20, h⟩ := ob1i h
      refine m_ci (m_rS (As := [.int (V.2.1 2 (30 : Int32).toNatClampNeg)]) (rest := []) X w hl mi_X9_ones ml_X9_349 (c_X9_ones l D cy ad A Kc C0 N z V (V.2.1 2 (30 : Int32).toNatClampNeg) r19 q20) ⟨⟨rfl, rfl, Nat.le_of_ble_eq_true rfl, Nat.le_of_ble_eq_true rfl⟩, Nat.le_of_ble_eq_true rfl, Nat.le_of_ble_eq_true rfl⟩ rfl rfl (Nat.le_of_ble_eq_true rfl) dX9_count_95) w (fun H locs w => ?_)
      obtain rfl := Option.some.inj h
      exact m_ri X w hr hlocks dX9_count_98
    · replace h := ifF h c17
      rcases Decidable.em (a1 = (2 : Int32)) with c21 | c21
      · replace h := ifT h c21
        refine lv_tableIn (tgt := 99) hx hb dX9_count_1 (by rw [c21]; decide) (by rw [c21]; decide) (by rw [c21]; rfl) (by decide) ?_
        refine lv_aload_n hx hb dX9_count_99 rfl (lv_at hl 0 rfl) ?_
        refine m_get X w 0 sm_n0 sm_k0 ci9 2 (by decide) (fvR sm_k0 rfl sm_p2) rfl fl_X9_28 dX9_count_100 ?_
        refine lv_bipush (v := 104) hx hb dX9_count_103 (by decide) ?_
        obtain ⟨g22, h⟩ := cki h
        refine m_iald X w 2 sm_n2 sm_k2 sm_z2 g22 dX9_count_105 ?_
        obtain rfl := Option.some.inj h
        exact m_ri X w hr hlocks dX9_count_106
      · replace h := ifF h c21
        rcases Decidable.em (a1 = (3 : Int32)) with c23 | c23
        · replace h := ifT h c23
          refine lv_tableIn (tgt := 107) hx hb dX9_count_1 (by rw [c23]; decide) (by rw [c23]; decide) (by rw [c23]; rfl) (by decide) ?_
          refine lv_aload_n hx hb dX9_count_107 rfl (lv_at hl 0 rfl) ?_
          refine m_get X w 0 sm_n0 sm_k0 ci9 2 (by decide) (fvR sm_k0 rfl sm_p2) rfl fl_X9_28 dX9_count_108 ?_
          refine lv_bipush (v := 105) hx hb dX9_count_111 (by decide) ?_
          obtain ⟨g24, h⟩ := cki h
          refine m_iald X w 2 sm_n2 sm_k2 sm_z2 g24 dX9_count_113 ?_
          obtain rfl := Option.some.inj h
          exact m_ri X w hr hlocks dX9_count_114
        · replace h := ifF h c23
          rcases Decidable.em (a1 = (4 : Int32)) with c25 | c25
          · replace h := ifT h c25
            refine lv_tableIn (tgt := 115) hx hb dX9_count_1 (by rw [c25]; decide) (by rw [c25]; decide) (by rw [c25]; rfl) (by decide) ?_
            refine lv_aload_n hx hb dX9_count_115 rfl (lv_at hl 0 rfl) ?_
            refine m_get X w 0 sm_n0 sm_k0 ci9 2 (by decide) (fvR sm_k0 rfl sm_p2) rfl fl_X9_28 dX9_count_116 ?_
            refine lv_bipush (v := 106) hx hb dX9_count_119 (by decide) ?_
            obtain ⟨g26, h⟩ := cki h
            refine m_iald X w 2 sm_n2 sm_k2 sm_z2 g26 dX9_count_121 ?_
            obtain rfl := Option.some.inj h
            exact m_ri X w hr hlocks dX9_count_122
          · replace h := ifF h c25
            rcases Decidable.em (a1 = (5 : Int32)) with c27 | c27
            · replace h := ifT h c27
              refine lv_tableIn (tgt := 123) hx hb dX9_count_1 (by rw [c27]; decide) (by rw [c27]; decide) (by rw [c27]; rfl) (by decide) ?_
              refine lv_aload_n hx hb dX9_count_123 rfl (lv_at hl 0 rfl) ?_
              refine m_get X w 0 sm_n0 sm_k0 ci9 31 (by decide) (fvI sm_k0 rfl) rfl fl_X9_11 dX9_count_124 ?_
              obtain rfl := Option.some.inj h
              exact m_ri X w hr hlocks dX9_count_127
            · replace h := ifF h c27
              rcases Decidable.em (a1 = (6 : Int32)) with c28 | c28
              · replace h := ifT h c28
                refine lv_tableIn (tgt := 128) hx hb dX9_count_1 (by rw [c28]; decide) (by rw [c28]; decide) (by rw [c28]; rfl) (by decide) ?_
                refine lv_aload_n hx hb dX9_count_128 rfl (lv_at hl 0 rfl) ?_
                refine m_get X w 0 sm_n0 sm_k0 ci9 13 (by decide) (fvI sm_k0 rfl) rfl fl_X9_152 dX9_count_129 ?_
                obtain rfl := Option.some.inj h
                exact m_ri X w hr hlocks dX9_count_132
              · replace h := ifF h c28
                rcases Decidable.em (a1 = (7 : Int32)) with c29 | c29
                · replace h := ifT h c29
                  refine lv_tableIn (tgt := 133) hx hb dX9_count_1 (by rw [c29]; decide) (by rw [c29]; decide) (by rw [c29]; rfl) (by decide) ?_
                  have g := B133 a1 h
                  rw [hG] at g
                  exact g H locs ls w (lv_sub hl [0, 1] rfl)
                · replace h := ifF h c29
                  rcases Decidable.em (a1 = (8 : Int32)) with c31 | c31
                  · replace h := ifT h c31
                    refine lv_tableIn (tgt := 133) hx hb dX9_count_1 (by rw [c31]; decide) (by rw [c31]; decide) (by rw [c31]; rfl) (by decide) ?_
                    have g := B133 a1 h
                    rw [hG] at g
                    exact g H locs ls w (lv_sub hl [0, 1] rfl)
                  · replace h := ifF h c31
                    rcases Decidable.em (a1 = (9 : Int32)) with c32 | c32
                    · replace h := ifT h c32
                      refine lv_tableIn (tgt := 133) hx hb dX9_count_1 (by rw [c32]; decide) (by rw [c32]; decide) (by rw [c32]; rfl) (by decide) ?_
                      have g := B133 a1 h
                      rw [hG] at g
                      exact g H locs ls w (lv_sub hl [0, 1] rfl)
                    · replace h := ifF h c32
                      rcases Decidable.em (a1 = (10 : Int32)) with c33 | c33
                      · replace h := ifT h c33
                        refine lv_tableIn (tgt := 143) hx hb dX9_count_1 (by rw [c33]; decide) (by rw [c33]; decide) (by rw [c33]; rfl) (by decide) ?_
                        refine lv_aload_n hx hb dX9_count_143 rfl (lv_at hl 0 rfl) ?_
                        refine m_get X w 0 sm_n0 sm_k0 ci9 1 (by decide) (fvR sm_k0 rfl sm_p1) rfl fl_X9_7 dX9_count_144 ?_
                        refine lv_iconst (v := 5) hx hb dX9_count_147 (by decide) ?_
                        obtain ⟨g34, h⟩ := cki h
                        refine m_iald X w 1 sm_n1 sm_k1 sm_z1 g34 dX9_count_148 ?_
                        obtain rfl := Option.some.inj h
                        exact m_ri X w hr hlocks dX9_count_149
                      · replace h := ifF h c33
                        rcases Decidable.em (a1 = (11 : Int32)) with c35 | c35
                        · replace h := ifT h c35
                          refine lv_tableIn (tgt := 150) hx hb dX9_count_1 (by rw [c35]; decide) (by rw [c35]; decide) (by rw [c35]; rfl) (by decide) ?_
                          refine lv_aload_n hx hb dX9_count_150 rfl (lv_at hl 0 rfl) ?_
                          refine m_get X w 0 sm_n0 sm_k0 ci9 1 (by decide) (fvR sm_k0 rfl sm_p1) rfl fl_X9_7 dX9_count_151 ?_
                          refine lv_bipush (v := 6) hx hb dX9_count_154 (by decide) ?_
                          obtain ⟨g36, h⟩ := cki h
                          refine m_iald X w 1 sm_n1 sm_k1 sm_z1 g36 dX9_count_156 ?_
                          obtain rfl := Option.some.inj h
                          exact m_ri X w hr hlocks dX9_count_157
                        · replace h := ifF h c35
                          rcases Decidable.em (a1 = (12 : Int32)) with c37 | c37
                          · replace h := ifT h c37
                            refine lv_tableIn (tgt := 158) hx hb dX9_count_1 (by rw [c37]; decide) (by rw [c37]; decide) (by rw [c37]; rfl) (by decide) ?_
                            refine lv_aload_n hx hb dX9_count_158 rfl (lv_at hl 0 rfl) ?_
                            refine m_get X w 0 sm_n0 sm_k0 ci9 2 (by decide) (fvR sm_k0 rfl sm_p2) rfl fl_X9_28 dX9_count_159 ?_
                            refine lv_bipush (v := 107) hx hb dX9_count_162 (by decide) ?_
                            obtain ⟨g38, h⟩ := cki h
                            refine m_iald X w 2 sm_n2 sm_k2 sm_z2 g38 dX9_count_164 ?_
                            obtain rfl := Option.some.inj h
                            exact m_ri X w hr hlocks dX9_count_165
                          · replace h := ifF h c37
                            rcases Decidable.em (a1 = (13 : Int32)) with c39 | c39
                            · replace h := ifT h c39
                              refine lv_tableIn (tgt := 166) hx hb dX9_count_1 (by rw [c39]; decide) (by rw [c39]; decide) (by rw [c39]; rfl) (by decide) ?_
                              have g := B166 a1 h
                              rw [hG] at g
                              exact g H locs ls w (lv_sub hl [0, 1] rfl)
                            · replace h := ifF h c39
                              rcases Decidable.em (a1 = (14 : Int32)) with c43 | c43
                              · replace h := ifT h c43
                                refine lv_tableIn (tgt := 166) hx hb dX9_count_1 (by rw [c43]; decide) (by rw [c43]; decide) (by rw [c43]; rfl) (by decide) ?_
                                have g := B166 a1 h
                                rw [hG] at g
                                exact g H locs ls w (lv_sub hl [0, 1] rfl)
                              · replace h := ifF h c43
                                rcases Decidable.em (a1 = (15 : Int32)) with c44 | c44
                                · replace h := ifT h c44
                                  refine lv_tableIn (tgt := 166) hx hb dX9_count_1 (by rw [c44]; decide) (by rw [c44]; decide) (by rw [c44]; rfl) (by decide) ?_
                                  have g := B166 a1 h
                                  rw [hG] at g
                                  exact g H locs ls w (lv_sub hl [0, 1] rfl)
                                · replace h := ifF h c44
                                  refine lv_tableOut (tgt := 179) hx hb dX9_count_1 (sw_out [(0 : Int32), (1 : Int32), (2 : Int32), (3 : Int32), (4 : Int32), (5 : Int32), (6 : Int32), (7 : Int32), (8 : Int32), (9 : Int32), (10 : Int32), (11 : Int32), (12 : Int32), (13 : Int32), (14 : Int32), (15 : Int32)] (by decide) (by intro q hq; simp only [List.mem_cons, List.not_mem_nil, or_false] at hq; rcases hq with rfl | rfl | rfl | rfl | rfl | rfl | rfl | rfl | rfl | rfl | rfl | rfl | rfl | rfl | rfl | rfl <;> assumption)) (by decide) ?_
                                  refine lv_iconst (v := (-1)) hx hb dX9_count_179 (by decide) ?_
                                  obtain rfl := Option.some.inj h
                                  exact m_ri X w hr hlocks dX9_count_180
def f_X9_back_33 (N : Nat) : Nat → Vt → Int32 → Int32 → Option (Int32 × Vt)
  | 0, _, _, _ => none
  | n + 1, V, v1, v2 => if (5715 : Int32) ≤ v2 then ob (f_X9_goodAnew N V (0 : Int32)) (fun r23 V25 => some (r23, V25)) else ck (((5715 : Int32) * v1) + v2) 11430 (ck v2 5715 (bd (sA V 2 v2.toNatClampNeg (V.2.1 3 (((5715 : Int32) * v1) + v2).toNatClampNeg)) (fun V28 => bd (v2 + (1 : Int32)) (fun x29 => (f_X9_back_33 N n) V28 v1 x29))))
def f_X9_back (N : Nat) (V : Vt) (a1 : Int32) : Option (Int32 × Vt) := ob1 (f_X9_lies N a1 (0 : Int32) (1 : Int32)) (fun r17 => if r17 = 0 then ob (f_X9_refuses N V (-1 : Int32)) (fun r33 V35 => some (r33, V35)) else ck a1 2 (if (V.2.1 4 a1.toNatClampNeg) = 0 then ob (f_X9_refuses N V (-2 : Int32)) (fun r30 V32 => some (r30, V32)) else f_X9_back_33 N N V a1 (0 : Int32)))
set_option maxHeartbeats 4000000 in
set_option maxRecDepth 100000 in
theorem c_X9_back (l : Launch) (D : va_G) (cy : Nat → ClassId) (ad : Nat → Nat) (A : Nat → Prop) (Kc : State → Prop) (C0 : Cx ad A Kc) (N : Nat) (z : Nat) (V : Vt) (a1 : Int32) (r : Int32) (V' : Vt) (h : f_X9_back N V a1 = some (r, V')) : Met l yX9_back (mw yX9_back cX9_back 3 (some .int)) { frames := 2, cells := 0, slots := 0, locals := 42 } (PreM D cy ad Kc (SM z) V [.ref (ad 0), .int a1]) (QI D cy ad A r (SM z) V') 0 0 A := by
  refine ct_go C0 (own := RX9) rfl (by decide) rfl ?_
  intro p e s m below meth c ls H locs X hr hlocks hnm hl w
  have hx := X.1.1
  have hb := X.1.2.1
  have hown := X.2.1
  have hts := X.2.2.1
  have hl : lv_has ls 3 [(0, .ref (ad 0)), (1, .int a1)] := hl
  obtain ⟨G, hG⟩ : ∃ G : Nat → Vt → List (Nat × Value) → List Value → Prop, G = fun pc V lv st => ∀ (H : Heap) (locs : List Loc) (ls : Array Slot), Wd D cy ad A s.heap (SM z) V H locs → lv_has ls 3 lv → W p l e { frames := 2, cells := 0, slots := 0, locals := 42 } s m ([.ref (ad 0), .int a1] : List Value).toArray below meth c H locs 0 0 (MQ below (QI D cy ad A r (SM z) V') ([.ref (ad 0), .int a1] : List Value).toArray s 0 0 A) (F0 m pc ls st) := ⟨_, rfl⟩
  have L33 : ∀ (n33 : Nat) (V : Vt) (v1 : Int32) (v2 : Int32), f_X9_back_33 N n33 V v1 v2 = some (r, V') → G 33 V [(0, .ref (ad 0)), (1, .int v1), (2, .int v2)] [] := by
    intro n33
    induction n33 with
    | zero => intro V v1 v2 h; rw [f_X9_back_33] at h; cases h
    | succ n33 ih33 =>
      intro V v1 v2 h
      rw [hG]
      intro H locs ls w hl
      rw [f_X9_back_33] at h
      refine lv_iload_n hx hb dX9_back_33 rfl (lv_at hl 2 rfl) ?_
      refine lv_sipush (v := 5715) hx hb dX9_back_34 (by decide) ?_
      refine lv_icmp_ge (tgt := 64) hx hb dX9_back_37 (by decide) (fun c22 => ?_) (fun c22 => ?_)
      · replace h := ifT h c22
        refine lv_aload_n hx hb dX9_back_64 rfl (lv_at hl 0 rfl) ?_
        refine lv_iconst (v := 0) hx hb dX9_back_65 (by decide) ?_
        obtain ⟨r23, V25, q24, h⟩ := obi h
        refine m_ci (m_rV (As := [.int (0 : Int32)]) (rest := []) X w hl mi_X9_goodAnew ml_X9_112 0 sm_n0 sm_k0 rfl (c_X9_goodAnew l D cy ad A Kc C0 N z V (0 : Int32) r23 V25 q24) ⟨⟨rfl, rfl, Nat.le_of_ble_eq_true rfl, Nat.le_of_ble_eq_true rfl⟩, Nat.le_of_ble_eq_true rfl, Nat.le_of_ble_eq_true rfl⟩ rfl rfl (Nat.le_of_ble_eq_true rfl) dX9_back_66) w (fun H locs w => ?_)
        obtain ⟨rfl, rfl⟩ := reti h
        exact m_ri X w hr hlocks dX9_back_69
      · replace h := ifF h c22
        refine lv_aload_n hx hb dX9_back_40 rfl (lv_at hl 0 rfl) ?_
        refine m_get X w 0 sm_n0 sm_k0 ci9 2 (by decide) (fvR sm_k0 rfl sm_p2) rfl fl_X9_28 dX9_back_41 ?_
        refine lv_iload_n hx hb dX9_back_44 rfl (lv_at hl 2 rfl) ?_
        refine lv_aload_n hx hb dX9_back_45 rfl (lv_at hl 0 rfl) ?_
        refine m_get X w 0 sm_n0 sm_k0 ci9 3 (by decide) (fvR sm_k0 rfl sm_p3) rfl fl_X9_31 dX9_back_46 ?_
        refine lv_sipush (v := 5715) hx hb dX9_back_49 (by decide) ?_
        refine lv_iload_n hx hb dX9_back_52 rfl (lv_at hl 1 rfl) ?_
        refine lv_imul hx hb dX9_back_53 ?_
        refine lv_iload_n hx hb dX9_back_54 rfl (lv_at hl 2 rfl) ?_
        refine lv_iadd hx hb dX9_back_55 ?_
        obtain ⟨g26, h⟩ := cki h
        refine m_iald X w 3 sm_n3 sm_k3 sm_z3 g26 dX9_back_56 ?_
        obtain ⟨g27, h⟩ := cki h
        refine m_iast X w 2 sm_n2 sm_k2 sm_z2 g27 dX9_back_57 (fun V28 H locs eV28 w => ?_)
        replace h := bdi h _ eV28
        obtain ⟨x29, ex29⟩ : ∃ y : Int32, y = v2 + (1 : Int32) := ⟨_, rfl⟩
        replace h := bdi h _ ex29
        refine lv_iinc (v := x29) (lv' := [(2, .int x29), (0, .ref (ad 0)), (1, .int v1)]) hx hb dX9_back_58 hl (k := 2) rfl (by rw [ex29]; rfl) (by decide) rfl (fun ls hl => ?_)
        refine lv_goto (tgt := 33) hx hb dX9_back_61 (by decide) ?_
        have g := ih33 V28 v1 x29 h
        rw [hG] at g
        exact g H locs ls w (lv_sub hl [1, 2, 0] rfl)
  rw [f_X9_back] at h
  refine lv_iload_n hx hb dX9_back_0 rfl (lv_at hl 1 rfl) ?_
  refine lv_iconst (v := 0) hx hb dX9_back_1 (by decide) ?_
  refine lv_iconst (v := 1) hx hb dX9_back_2 (by decide) ?_
  obtain ⟨r17, q18, h⟩ := ob1i h
  refine m_ci (m_rS (As := [.int a1, .int (0 : Int32), .int (1 : Int32)]) (rest := []) X w hl mi_X9_lies ml_X9_18 (c_X9_lies l D cy ad A Kc C0 N z V a1 (0 : Int32) (1 : Int32) r17 q18) ⟨⟨rfl, rfl, Nat.le_of_ble_eq_true rfl, Nat.le_of_ble_eq_true rfl⟩, Nat.le_of_ble_eq_true rfl, Nat.le_of_ble_eq_true rfl⟩ rfl rfl (Nat.le_of_ble_eq_true rfl) dX9_back_3) w (fun H locs w => ?_)
  refine lv_if_ne (tgt := 15) hx hb dX9_back_6 (by decide) (fun c19 => ?_) (fun c19 => ?_)
  · replace h := ifF h c19
    refine lv_aload_n hx hb dX9_back_15 rfl (lv_at hl 0 rfl) ?_
    refine m_get X w 0 sm_n0 sm_k0 ci9 4 (by decide) (fvR sm_k0 rfl sm_p4) rfl fl_X9_34 dX9_back_16 ?_
    refine lv_iload_n hx hb dX9_back_19 rfl (lv_at hl 1 rfl) ?_
    obtain ⟨g20, h⟩ := cki h
    refine m_zald X w 4 sm_n4 sm_k4 sm_z4 g20 dX9_back_20 ?_
    refine lv_if_ne (tgt := 31) hx hb dX9_back_21 (by decide) (fun c21 => ?_) (fun c21 => ?_)
    · replace h := ifF h c21
      refine lv_iconst (v := 0) hx hb dX9_back_31 (by decide) ?_
      refine lv_istore_n (lv' := [(2, .int (0 : Int32)), (0, .ref (ad 0)), (1, .int a1)]) hx hb dX9_back_32 rfl hl (by decide) rfl (fun ls hl => ?_)
      have g := L33 N V a1 (0 : Int32) h
      rw [hG] at g
      exact g H locs ls w (lv_sub hl [1, 2, 0] rfl)
    · replace h := ifT h c21
      refine lv_aload_n hx hb dX9_back_24 rfl (lv_at hl 0 rfl) ?_
      refine lv_bipush (v := (-2)) hx hb dX9_back_25 (by decide) ?_
      obtain ⟨r30, V32, q31, h⟩ := obi h
      refine m_ci (m_rV (As := [.int (-2 : Int32)]) (rest := []) X w hl mi_X9_refuses ml_X9_109 0 sm_n0 sm_k0 rfl (c_X9_refuses l D cy ad A Kc C0 N z V (-2 : Int32) r30 V32 q31) ⟨⟨rfl, rfl, Nat.le_of_ble_eq_true rfl, Nat.le_of_ble_eq_true rfl⟩, Nat.le_of_ble_eq_true rfl, Nat.le_of_ble_eq_true rfl⟩ rfl rfl (Nat.le_of_ble_eq_true rfl) dX9_back_27) w (fun H locs w => ?_)
      obtain ⟨rfl, rfl⟩ := reti h
      exact m_ri X w hr hlocks dX9_back_30
  · replace h := ifT h c19
    refine lv_aload_n hx hb dX9_back_9 rfl (lv_at hl 0 rfl) ?_
    refine lv_iconst (v := (-1)) hx hb dX9_back_10 (by decide) ?_
    obtain ⟨r33, V35, q34, h⟩ := obi h
    refine m_ci (m_rV (As := [.int (-1 : Int32)]) (rest := []) X w hl mi_X9_refuses ml_X9_109 0 sm_n0 sm_k0 rfl (c_X9_refuses l D cy ad A Kc C0 N z V (-1 : Int32) r33 V35 q34) ⟨⟨rfl, rfl, Nat.le_of_ble_eq_true rfl, Nat.le_of_ble_eq_true rfl⟩, Nat.le_of_ble_eq_true rfl, Nat.le_of_ble_eq_true rfl⟩ rfl rfl (Nat.le_of_ble_eq_true rfl) dX9_back_11) w (fun H locs w => ?_)
    obtain ⟨rfl, rfl⟩ := reti h
    exact m_ri X w hr hlocks dX9_back_14
def f_X9_enter_18 (N : Nat) (V : Vt) : Option (Int32 × Vt) := ob (f_X9_refuses N V (-1 : Int32)) (fun r18 V20 => some (r18, V20))
def f_X9_enter (N : Nat) (V : Vt) (a1 : Int32) (a2 : Int32) : Option (Int32 × Vt) := ob1 (f_X9_isCell N a1) (fun r15 => if r15 = 0 then f_X9_enter_18 N V  else ob1 (f_X9_lies N a2 (0 : Int32) (999 : Int32)) (fun r21 => if r21 = 0 then f_X9_enter_18 N V  else ck ((0 : Int32) + a1) 5715 (bd (V.2.1 2 ((0 : Int32) + a1).toNatClampNeg) (fun x25 => ck ((0 : Int32) + a1) 5715 (bd (sA V 2 ((0 : Int32) + a1).toNatClampNeg a2) (fun V27 => ob (f_X9_goodAnew N V27 x25) (fun r28 V30 => some (r28, V30))))))))
set_option maxHeartbeats 4000000 in
set_option maxRecDepth 100000 in
theorem c_X9_enter (l : Launch) (D : va_G) (cy : Nat → ClassId) (ad : Nat → Nat) (A : Nat → Prop) (Kc : State → Prop) (C0 : Cx ad A Kc) (N : Nat) (z : Nat) (V : Vt) (a1 : Int32) (a2 : Int32) (r : Int32) (V' : Vt) (h : f_X9_enter N V a1 a2 = some (r, V')) : Met l yX9_enter (mw yX9_enter cX9_enter 4 (some .int)) { frames := 2, cells := 0, slots := 0, locals := 42 } (PreM D cy ad Kc (SM z) V [.ref (ad 0), .int a1, .int a2]) (QI D cy ad A r (SM z) V') 0 0 A := by
  refine ct_go C0 (own := RX9) rfl (by decide) rfl ?_
  intro p e s m below meth c ls H locs X hr hlocks hnm hl w
  have hx := X.1.1
  have hb := X.1.2.1
  have hown := X.2.1
  have hts := X.2.2.1
  have hl : lv_has ls 4 [(0, .ref (ad 0)), (1, .int a1), (2, .int a2)] := hl
  obtain ⟨G, hG⟩ : ∃ G : Nat → Vt → List (Nat × Value) → List Value → Prop, G = fun pc V lv st => ∀ (H : Heap) (locs : List Loc) (ls : Array Slot), Wd D cy ad A s.heap (SM z) V H locs → lv_has ls 4 lv → W p l e { frames := 2, cells := 0, slots := 0, locals := 42 } s m ([.ref (ad 0), .int a1, .int a2] : List Value).toArray below meth c H locs 0 0 (MQ below (QI D cy ad A r (SM z) V') ([.ref (ad 0), .int a1, .int a2] : List Value).toArray s 0 0 A) (F0 m pc ls st) := ⟨_, rfl⟩
  have B18 : ∀ (V : Vt), f_X9_enter_18 N V  = some (r, V') → G 18 V [(0, .ref (ad 0))] [] := by
    intro V  h
    rw [hG]
    intro H locs ls w hl
    rw [f_X9_enter_18] at h
    refine lv_aload_n hx hb dX9_enter_18 rfl (lv_at hl 0 rfl) ?_
    refine lv_iconst (v := (-1)) hx hb dX9_enter_19 (by decide) ?_
    obtain ⟨r18, V20, q19, h⟩ := obi h
    refine m_ci (m_rV (As := [.int (-1 : Int32)]) (rest := []) X w hl mi_X9_refuses ml_X9_109 0 sm_n0 sm_k0 rfl (c_X9_refuses l D cy ad A Kc C0 N z V (-1 : Int32) r18 V20 q19) ⟨⟨rfl, rfl, Nat.le_of_ble_eq_true rfl, Nat.le_of_ble_eq_true rfl⟩, Nat.le_of_ble_eq_true rfl, Nat.le_of_ble_eq_true rfl⟩ rfl rfl (Nat.le_of_ble_eq_true rfl) dX9_enter_20) w (fun H locs w => ?_)
    obtain ⟨rfl, rfl⟩ := reti h
    exact m_ri X w hr hlocks dX9_enter_23
  rw [f_X9_enter] at h
  refine lv_iload_n hx hb dX9_enter_0 rfl (lv_at hl 1 rfl) ?_
  obtain ⟨r15, q16, h⟩ := ob1i h
  refine m_ci (m_rS (As := [.int a1]) (rest := []) X w hl mi_X9_isCell ml_X9_115 (c_X9_isCell l D cy ad A Kc C0 N z V a1 r15 q16) ⟨⟨rfl, rfl, Nat.le_of_ble_eq_true rfl, Nat.le_of_ble_eq_true rfl⟩, Nat.le_of_ble_eq_true rfl, Nat.le_of_ble_eq_true rfl⟩ rfl rfl (Nat.le_of_ble_eq_true rfl) dX9_enter_1) w (fun H locs w => ?_)
  refine lv_if_eq (tgt := 18) hx hb dX9_enter_4 (by decide) (fun c17 => ?_) (fun c17 => ?_)
  · replace h := ifT h c17
    have g := B18 V  h
    rw [hG] at g
    exact g H locs ls w (lv_sub hl [0] rfl)
  · replace h := ifF h c17
    refine lv_iload_n hx hb dX9_enter_7 rfl (lv_at hl 2 rfl) ?_
    refine lv_iconst (v := 0) hx hb dX9_enter_8 (by decide) ?_
    refine lv_sipush (v := 999) hx hb dX9_enter_9 (by decide) ?_
    obtain ⟨r21, q22, h⟩ := ob1i h
    refine m_ci (m_rS (As := [.int a2, .int (0 : Int32), .int (999 : Int32)]) (rest := []) X w hl mi_X9_lies ml_X9_18 (c_X9_lies l D cy ad A Kc C0 N z V a2 (0 : Int32) (999 : Int32) r21 q22) ⟨⟨rfl, rfl, Nat.le_of_ble_eq_true rfl, Nat.le_of_ble_eq_true rfl⟩, Nat.le_of_ble_eq_true rfl, Nat.le_of_ble_eq_true rfl⟩ rfl rfl (Nat.le_of_ble_eq_true rfl) dX9_enter_12) w (fun H locs w => ?_)
    refine lv_if_ne (tgt := 24) hx hb dX9_enter_15 (by decide) (fun c23 => ?_) (fun c23 => ?_)
    · replace h := ifF h c23
      refine lv_aload_n hx hb dX9_enter_24 rfl (lv_at hl 0 rfl) ?_
      refine m_get X w 0 sm_n0 sm_k0 ci9 2 (by decide) (fvR sm_k0 rfl sm_p2) rfl fl_X9_28 dX9_enter_25 ?_
      refine lv_iconst (v := 0) hx hb dX9_enter_28 (by decide) ?_
      refine lv_iload_n hx hb dX9_enter_29 rfl (lv_at hl 1 rfl) ?_
      refine lv_iadd hx hb dX9_enter_30 ?_
      obtain ⟨g24, h⟩ := cki h
      refine m_iald X w 2 sm_n2 sm_k2 sm_z2 g24 dX9_enter_31 ?_
      refine lv_topi (fun x25 ex25 => ?_)
      replace h := bdi h _ ex25
      refine lv_istore_n (lv' := [(3, .int x25), (0, .ref (ad 0)), (1, .int a1), (2, .int a2)]) hx hb dX9_enter_32 rfl hl (by decide) rfl (fun ls hl => ?_)
      refine lv_aload_n hx hb dX9_enter_33 rfl (lv_at hl 1 rfl) ?_
      refine m_get X w 0 sm_n0 sm_k0 ci9 2 (by decide) (fvR sm_k0 rfl sm_p2) rfl fl_X9_28 dX9_enter_34 ?_
      refine lv_iconst (v := 0) hx hb dX9_enter_37 (by decide) ?_
      refine lv_iload_n hx hb dX9_enter_38 rfl (lv_at hl 2 rfl) ?_
      refine lv_iadd hx hb dX9_enter_39 ?_
      refine lv_iload_n hx hb dX9_enter_40 rfl (lv_at hl 3 rfl) ?_
      obtain ⟨g26, h⟩ := cki h
      refine m_iast X w 2 sm_n2 sm_k2 sm_z2 g26 dX9_enter_41 (fun V27 H locs eV27 w => ?_)
      replace h := bdi h _ eV27
      refine lv_aload_n hx hb dX9_enter_42 rfl (lv_at hl 1 rfl) ?_
      refine lv_iload_n hx hb dX9_enter_43 rfl (lv_at hl 0 rfl) ?_
      obtain ⟨r28, V30, q29, h⟩ := obi h
      refine m_ci (m_rV (As := [.int x25]) (rest := []) X w hl mi_X9_goodAnew ml_X9_112 0 sm_n0 sm_k0 rfl (c_X9_goodAnew l D cy ad A Kc C0 N z V27 x25 r28 V30 q29) ⟨⟨rfl, rfl, Nat.le_of_ble_eq_true rfl, Nat.le_of_ble_eq_true rfl⟩, Nat.le_of_ble_eq_true rfl, Nat.le_of_ble_eq_true rfl⟩ rfl rfl (Nat.le_of_ble_eq_true rfl) dX9_enter_44) w (fun H locs w => ?_)
      obtain ⟨rfl, rfl⟩ := reti h
      exact m_ri X w hr hlocks dX9_enter_47
    · replace h := ifT h c23
      have g := B18 V  h
      rw [hG] at g
      exact g H locs ls w (lv_sub hl [0] rfl)
def f_X9_told_27 (N : Nat) (V : Vt) : Option (Int32 × Vt) := ob (f_X9_refuses N V (-1 : Int32)) (fun r21 V23 => some (r21, V23))
def f_X9_told (N : Nat) (V : Vt) (a1 : Int32) (a2 : Int32) (a3 : Int32) : Option (Int32 × Vt) := ob1 (f_X9_lies N a1 (0 : Int32) (1 : Int32)) (fun r18 => if r18 = 0 then f_X9_told_27 N V  else ob1 (f_X9_isFive N a2) (fun r24 => if r24 = 0 then f_X9_told_27 N V  else ob1 (f_X9_lies N a3 (0 : Int32) (9999 : Int32)) (fun r27 => if r27 = 0 then f_X9_told_27 N V  else bd (((32 : Int32) + ((5 : Int32) * a1)) + a2) (fun x30 => ck x30 5715 (bd (V.2.1 2 x30.toNatClampNeg) (fun x32 => ck x30 5715 (bd (sA V 2 x30.toNatClampNeg a3) (fun V34 => ob (f_X9_good N V34 x32) (fun r35 V37 => some (r35, V37))))))))))
set_option maxHeartbeats 4000000 in
set_option maxRecDepth 100000 in
theorem c_X9_told (l : Launch) (D : va_G) (cy : Nat → ClassId) (ad : Nat → Nat) (A : Nat → Prop) (Kc : State → Prop) (C0 : Cx ad A Kc) (N : Nat) (z : Nat) (V : Vt) (a1 : Int32) (a2 : Int32) (a3 : Int32) (r : Int32) (V' : Vt) (h : f_X9_told N V a1 a2 a3 = some (r, V')) : Met l yX9_told (mw yX9_told cX9_told 6 (some .int)) { frames := 2, cells := 0, slots := 0, locals := 42 } (PreM D cy ad Kc (SM z) V [.ref (ad 0), .int a1, .int a2, .int a3]) (QI D cy ad A r (SM z) V') 0 0 A := by
  refine ct_go C0 (own := RX9) rfl (by decide) rfl ?_
  intro p e s m below meth c ls H locs X hr hlocks hnm hl w
  have hx := X.1.1
  have hb := X.1.2.1
  have hown := X.2.1
  have hts := X.2.2.1
  have hl : lv_has ls 6 [(0, .ref (ad 0)), (1, .int a1), (2, .int a2), (3, .int a3)] := hl
  obtain ⟨G, hG⟩ : ∃ G : Nat → Vt → List (Nat × Value) → List Value → Prop, G = fun pc V lv st => ∀ (H : Heap) (locs : List Loc) (ls : Array Slot), Wd D cy ad A s.heap (SM z) V H locs → lv_has ls 6 lv → W p l e { frames := 2, cells := 0, slots := 0, locals := 42 } s m ([.ref (ad 0), .int a1, .int a2, .int a3] : List Value).toArray below meth c H locs 0 0 (MQ below (QI D cy ad A r (SM z) V') ([.ref (ad 0), .int a1, .int a2, .int a3] : List Value).toArray s 0 0 A) (F0 m pc ls st) := ⟨_, rfl⟩
  have B27 : ∀ (V : Vt), f_X9_told_27 N V  = some (r, V') → G 27 V [(0, .ref (ad 0))] [] := by
    intro V  h
    rw [hG]
    intro H locs ls w hl
    rw [f_X9_told_27] at h
    refine lv_aload_n hx hb dX9_told_27 rfl (lv_at hl 0 rfl) ?_
    refine lv_iconst (v := (-1)) hx hb dX9_told_28 (by decide) ?_
    obtain ⟨r21, V23, q22, h⟩ := obi h
    refine m_ci (m_rV (As := [.int (-1 : Int32)]) (rest := []) X w hl mi_X9_refuses ml_X9_109 0 sm_n0 sm_k0 rfl (c_X9_refuses l D cy ad A Kc C0 N z V (-1 : Int32) r21 V23 q22) ⟨⟨rfl, rfl, Nat.le_of_ble_eq_true rfl, Nat.le_of_ble_eq_true rfl⟩, Nat.le_of_ble_eq_true rfl, Nat.le_of_ble_eq_true rfl⟩ rfl rfl (Nat.le_of_ble_eq_true rfl) dX9_told_29) w (fun H locs w => ?_)
    obtain ⟨rfl, rfl⟩ := reti h
    exact m_ri X w hr hlocks dX9_told_32
  rw [f_X9_told] at h
  refine lv_iload_n hx hb dX9_told_0 rfl (lv_at hl 1 rfl) ?_
  refine lv_iconst (v := 0) hx hb dX9_told_1 (by decide) ?_
  refine lv_iconst (v := 1) hx hb dX9_told_2 (by decide) ?_
  obtain ⟨r18, q19, h⟩ := ob1i h
  refine m_ci (m_rS (As := [.int a1, .int (0 : Int32), .int (1 : Int32)]) (rest := []) X w hl mi_X9_lies ml_X9_18 (c_X9_lies l D cy ad A Kc C0 N z V a1 (0 : Int32) (1 : Int32) r18 q19) ⟨⟨rfl, rfl, Nat.le_of_ble_eq_true rfl, Nat.le_of_ble_eq_true rfl⟩, Nat.le_of_ble_eq_true rfl, Nat.le_of_ble_eq_true rfl⟩ rfl rfl (Nat.le_of_ble_eq_true rfl) dX9_told_3) w (fun H locs w => ?_)
  refine lv_if_eq (tgt := 27) hx hb dX9_told_6 (by decide) (fun c20 => ?_) (fun c20 => ?_)
  · replace h := ifT h c20
    have g := B27 V  h
    rw [hG] at g
    exact g H locs ls w (lv_sub hl [0] rfl)
  · replace h := ifF h c20
    refine lv_iload_n hx hb dX9_told_9 rfl (lv_at hl 2 rfl) ?_
    obtain ⟨r24, q25, h⟩ := ob1i h
    refine m_ci (m_rS (As := [.int a2]) (rest := []) X w hl mi_X9_isFive ml_X9_129 (c_X9_isFive l D cy ad A Kc C0 N z V a2 r24 q25) ⟨⟨rfl, rfl, Nat.le_of_ble_eq_true rfl, Nat.le_of_ble_eq_true rfl⟩, Nat.le_of_ble_eq_true rfl, Nat.le_of_ble_eq_true rfl⟩ rfl rfl (Nat.le_of_ble_eq_true rfl) dX9_told_10) w (fun H locs w => ?_)
    refine lv_if_eq (tgt := 27) hx hb dX9_told_13 (by decide) (fun c26 => ?_) (fun c26 => ?_)
    · replace h := ifT h c26
      have g := B27 V  h
      rw [hG] at g
      exact g H locs ls w (lv_sub hl [0] rfl)
    · replace h := ifF h c26
      refine lv_iload_n hx hb dX9_told_16 rfl (lv_at hl 3 rfl) ?_
      refine lv_iconst (v := 0) hx hb dX9_told_17 (by decide) ?_
      refine lv_sipush (v := 9999) hx hb dX9_told_18 (by decide) ?_
      obtain ⟨r27, q28, h⟩ := ob1i h
      refine m_ci (m_rS (As := [.int a3, .int (0 : Int32), .int (9999 : Int32)]) (rest := []) X w hl mi_X9_lies ml_X9_18 (c_X9_lies l D cy ad A Kc C0 N z V a3 (0 : Int32) (9999 : Int32) r27 q28) ⟨⟨rfl, rfl, Nat.le_of_ble_eq_true rfl, Nat.le_of_ble_eq_true rfl⟩, Nat.le_of_ble_eq_true rfl, Nat.le_of_ble_eq_true rfl⟩ rfl rfl (Nat.le_of_ble_eq_true rfl) dX9_told_21) w (fun H locs w => ?_)
      refine lv_if_ne (tgt := 33) hx hb dX9_told_24 (by decide) (fun c29 => ?_) (fun c29 => ?_)
      · replace h := ifF h c29
        refine lv_bipush (v := 32) hx hb dX9_told_33 (by decide) ?_
        refine lv_iconst (v := 5) hx hb dX9_told_35 (by decide) ?_
        refine lv_iload_n hx hb dX9_told_36 rfl (lv_at hl 1 rfl) ?_
        refine lv_imul hx hb dX9_told_37 ?_
        refine lv_iadd hx hb dX9_told_38 ?_
        refine lv_iload_n hx hb dX9_told_39 rfl (lv_at hl 2 rfl) ?_
        refine lv_iadd hx hb dX9_told_40 ?_
        refine lv_topi (fun x30 ex30 => ?_)
        replace h := bdi h _ ex30
        refine lv_istore (lv' := [(4, .int x30), (0, .ref (ad 0)), (1, .int a1), (2, .int a2), (3, .int a3)]) hx hb dX9_told_41 hl (by decide) rfl (fun ls hl => ?_)
        refine lv_aload_n hx hb dX9_told_43 rfl (lv_at hl 1 rfl) ?_
        refine m_get X w 0 sm_n0 sm_k0 ci9 2 (by decide) (fvR sm_k0 rfl sm_p2) rfl fl_X9_28 dX9_told_44 ?_
        refine lv_iload hx hb dX9_told_47 (lv_at hl 0 rfl) ?_
        obtain ⟨g31, h⟩ := cki h
        refine m_iald X w 2 sm_n2 sm_k2 sm_z2 g31 dX9_told_49 ?_
        refine lv_topi (fun x32 ex32 => ?_)
        replace h := bdi h _ ex32
        refine lv_istore (lv' := [(5, .int x32), (4, .int x30), (0, .ref (ad 0)), (1, .int a1), (2, .int a2), (3, .int a3)]) hx hb dX9_told_50 hl (by decide) rfl (fun ls hl => ?_)
        refine lv_aload_n hx hb dX9_told_52 rfl (lv_at hl 2 rfl) ?_
        refine m_get X w 0 sm_n0 sm_k0 ci9 2 (by decide) (fvR sm_k0 rfl sm_p2) rfl fl_X9_28 dX9_told_53 ?_
        refine lv_iload hx hb dX9_told_56 (lv_at hl 1 rfl) ?_
        refine lv_iload_n hx hb dX9_told_58 rfl (lv_at hl 5 rfl) ?_
        obtain ⟨g33, h⟩ := cki h
        refine m_iast X w 2 sm_n2 sm_k2 sm_z2 g33 dX9_told_59 (fun V34 H locs eV34 w => ?_)
        replace h := bdi h _ eV34
        refine lv_aload_n hx hb dX9_told_60 rfl (lv_at hl 2 rfl) ?_
        refine lv_iload hx hb dX9_told_61 (lv_at hl 0 rfl) ?_
        obtain ⟨r35, V37, q36, h⟩ := obi h
        refine m_ci (m_rV (As := [.int x32]) (rest := []) X w hl mi_X9_good ml_X9_14 0 sm_n0 sm_k0 rfl (c_X9_good l D cy ad A Kc C0 N z V34 x32 r35 V37 q36) ⟨⟨rfl, rfl, Nat.le_of_ble_eq_true rfl, Nat.le_of_ble_eq_true rfl⟩, Nat.le_of_ble_eq_true rfl, Nat.le_of_ble_eq_true rfl⟩ rfl rfl (Nat.le_of_ble_eq_true rfl) dX9_told_63) w (fun H locs w => ?_)
        obtain ⟨rfl, rfl⟩ := reti h
        exact m_ri X w hr hlocks dX9_told_66
      · replace h := ifT h c29
        have g := B27 V  h
        rw [hG] at g
        exact g H locs ls w (lv_sub hl [0] rfl)
def f_X9_off (N : Nat) (V : Vt) (a1 : Int32) (a2 : Int32) : Option Int32 := ob1 (f_X9_lies N a1 (0 : Int32) (1 : Int32)) (fun r7 => if r7 = 0 then some (-100000 : Int32) else ob1 (f_X9_isFive N a2) (fun r10 => if r10 = 0 then some (-100000 : Int32) else ob1 (f_X9_offBy N V (((5 : Int32) * a1) + a2)) (fun r13 => some r13)))
set_option maxHeartbeats 4000000 in
set_option maxRecDepth 100000 in
theorem c_X9_off (l : Launch) (D : va_G) (cy : Nat → ClassId) (ad : Nat → Nat) (A : Nat → Prop) (Kc : State → Prop) (C0 : Cx ad A Kc) (N : Nat) (z : Nat) (V : Vt) (a1 : Int32) (a2 : Int32) (r : Int32) (h : f_X9_off N V a1 a2 = some r) : Met l yX9_off (mw yX9_off cX9_off 3 (some .int)) { frames := 2, cells := 0, slots := 0, locals := 42 } (PreM D cy ad Kc (SM z) V [.ref (ad 0), .int a1, .int a2]) (QI D cy ad A r (SM z) V) 0 0 A := by
  refine ct_go C0 (own := RX9) rfl (by decide) rfl ?_
  intro p e s m below meth c ls H locs X hr hlocks hnm hl w
  have hx := X.1.1
  have hb := X.1.2.1
  have hown := X.2.1
  have hts := X.2.2.1
  have hl : lv_has ls 3 [(0, .ref (ad 0)), (1, .int a1), (2, .int a2)] := hl
  rw [f_X9_off] at h
  refine lv_iload_n hx hb dX9_off_0 rfl (lv_at hl 1 rfl) ?_
  refine lv_iconst (v := 0) hx hb dX9_off_1 (by decide) ?_
  refine lv_iconst (v := 1) hx hb dX9_off_2 (by decide) ?_
  obtain ⟨r7, q8, h⟩ := ob1i h
  refine m_ci (m_rS (As := [.int a1, .int (0 : Int32), .int (1 : Int32)]) (rest := []) X w hl mi_X9_lies ml_X9_18 (c_X9_lies l D cy ad A Kc C0 N z V a1 (0 : Int32) (1 : Int32) r7 q8) ⟨⟨rfl, rfl, Nat.le_of_ble_eq_true rfl, Nat.le_of_ble_eq_true rfl⟩, Nat.le_of_ble_eq_true rfl, Nat.le_of_ble_eq_true rfl⟩ rfl rfl (Nat.le_of_ble_eq_true rfl) dX9_off_3) w (fun H locs w => ?_)
  refine lv_if_eq (tgt := 28) hx hb dX9_off_6 (by decide) (fun c9 => ?_) (fun c9 => ?_)
  · replace h := ifT h c9
    refine lv_ldc (v := (-100000)) hx hb hown (hts _ kc_X9_135) dX9_off_28 ?_
    obtain rfl := Option.some.inj h
    exact m_ri X w hr hlocks dX9_off_30
  · replace h := ifF h c9
    refine lv_iload_n hx hb dX9_off_9 rfl (lv_at hl 2 rfl) ?_
    obtain ⟨r10, q11, h⟩ := ob1i h
    refine m_ci (m_rS (As := [.int a2]) (rest := []) X w hl mi_X9_isFive ml_X9_129 (c_X9_isFive l D cy ad A Kc C0 N z V a2 r10 q11) ⟨⟨rfl, rfl, Nat.le_of_ble_eq_true rfl, Nat.le_of_ble_eq_true rfl⟩, Nat.le_of_ble_eq_true rfl, Nat.le_of_ble_eq_true rfl⟩ rfl rfl (Nat.le_of_ble_eq_true rfl) dX9_off_10) w (fun H locs w => ?_)
    refine lv_if_eq (tgt := 28) hx hb dX9_off_13 (by decide) (fun c12 => ?_) (fun c12 => ?_)
    · replace h := ifT h c12
      refine lv_ldc (v := (-100000)) hx hb hown (hts _ kc_X9_135) dX9_off_28 ?_
      obtain rfl := Option.some.inj h
      exact m_ri X w hr hlocks dX9_off_30
    · replace h := ifF h c12
      refine lv_aload_n hx hb dX9_off_16 rfl (lv_at hl 0 rfl) ?_
      refine lv_iconst (v := 5) hx hb dX9_off_17 (by decide) ?_
      refine lv_iload_n hx hb dX9_off_18 rfl (lv_at hl 1 rfl) ?_
      refine lv_imul hx hb dX9_off_19 ?_
      refine lv_iload_n hx hb dX9_off_20 rfl (lv_at hl 2 rfl) ?_
      refine lv_iadd hx hb dX9_off_21 ?_
      obtain ⟨r13, q14, h⟩ := ob1i h
      refine m_ci (m_rV (As := [.int (((5 : Int32) * a1) + a2)]) (rest := []) X w hl mi_X9_offBy ml_X9_132 0 sm_n0 sm_k0 rfl (c_X9_offBy l D cy ad A Kc C0 N z V (((5 : Int32) * a1) + a2) r13 q14) ⟨⟨rfl, rfl, Nat.le_of_ble_eq_true rfl, Nat.le_of_ble_eq_true rfl⟩, Nat.le_of_ble_eq_true rfl, Nat.le_of_ble_eq_true rfl⟩ rfl rfl (Nat.le_of_ble_eq_true rfl) dX9_off_22) w (fun H locs w => ?_)
      refine lv_goto (tgt := 30) hx hb dX9_off_25 (by decide) ?_
      obtain rfl := Option.some.inj h
      exact m_ri X w hr hlocks dX9_off_30
def f_X9_clerk (N : Nat) (V : Vt) (a1 : Int32) : Option (Int32 × Vt) := ob1 (f_X9_lies N a1 (0 : Int32) (9 : Int32)) (fun r21 => if r21 = 0 then ob (f_X9_refuses N V (-1 : Int32)) (fun r40 V42 => some (r40, V42)) else ck (103 : Int32) 5715 (bd (V.2.1 2 (103 : Int32).toNatClampNeg) (fun x25 => if x25 = (5 : Int32) then ob (f_X9_refuses N V (-5 : Int32)) (fun r37 V39 => some (r37, V39)) else ck ((42 : Int32) + x25) 5715 (bd (sA V 2 ((42 : Int32) + x25).toNatClampNeg a1) (fun V28 => ck ((25 : Int32) + x25) 5715 (bd (sA V28 2 ((25 : Int32) + x25).toNatClampNeg (0 : Int32)) (fun V30 => ck (103 : Int32) 5715 (ck (103 : Int32) 5715 (bd (sA V30 2 (103 : Int32).toNatClampNeg ((V30.2.1 2 (103 : Int32).toNatClampNeg) + (1 : Int32))) (fun V33 => ob (f_X9_goodAnew N V33 x25) (fun r34 V36 => some (r34, V36))))))))))))
set_option maxHeartbeats 4000000 in
set_option maxRecDepth 100000 in
theorem c_X9_clerk (l : Launch) (D : va_G) (cy : Nat → ClassId) (ad : Nat → Nat) (A : Nat → Prop) (Kc : State → Prop) (C0 : Cx ad A Kc) (N : Nat) (z : Nat) (V : Vt) (a1 : Int32) (r : Int32) (V' : Vt) (h : f_X9_clerk N V a1 = some (r, V')) : Met l yX9_clerk (mw yX9_clerk cX9_clerk 3 (some .int)) { frames := 2, cells := 0, slots := 0, locals := 42 } (PreM D cy ad Kc (SM z) V [.ref (ad 0), .int a1]) (QI D cy ad A r (SM z) V') 0 0 A := by
  refine ct_go C0 (own := RX9) rfl (by decide) rfl ?_
  intro p e s m below meth c ls H locs X hr hlocks hnm hl w
  have hx := X.1.1
  have hb := X.1.2.1
  have hown := X.2.1
  have hts := X.2.2.1
  have hl : lv_has ls 3 [(0, .ref (ad 0)), (1, .int a1)] := hl
  rw [f_X9_clerk] at h
  refine lv_iload_n hx hb dX9_clerk_0 rfl (lv_at hl 1 rfl) ?_
  refine lv_iconst (v := 0) hx hb dX9_clerk_1 (by decide) ?_
  refine lv_bipush (v := 9) hx hb dX9_clerk_2 (by decide) ?_
  obtain ⟨r21, q22, h⟩ := ob1i h
  refine m_ci (m_rS (As := [.int a1, .int (0 : Int32), .int (9 : Int32)]) (rest := []) X w hl mi_X9_lies ml_X9_18 (c_X9_lies l D cy ad A Kc C0 N z V a1 (0 : Int32) (9 : Int32) r21 q22) ⟨⟨rfl, rfl, Nat.le_of_ble_eq_true rfl, Nat.le_of_ble_eq_true rfl⟩, Nat.le_of_ble_eq_true rfl, Nat.le_of_ble_eq_true rfl⟩ rfl rfl (Nat.le_of_ble_eq_true rfl) dX9_clerk_4) w (fun H locs w => ?_)
  refine lv_if_ne (tgt := 16) hx hb dX9_clerk_7 (by decide) (fun c23 => ?_) (fun c23 => ?_)
  · replace h := ifF h c23
    refine lv_aload_n hx hb dX9_clerk_16 rfl (lv_at hl 0 rfl) ?_
    refine m_get X w 0 sm_n0 sm_k0 ci9 2 (by decide) (fvR sm_k0 rfl sm_p2) rfl fl_X9_28 dX9_clerk_17 ?_
    refine lv_bipush (v := 103) hx hb dX9_clerk_20 (by decide) ?_
    obtain ⟨g24, h⟩ := cki h
    refine m_iald X w 2 sm_n2 sm_k2 sm_z2 g24 dX9_clerk_22 ?_
    refine lv_topi (fun x25 ex25 => ?_)
    replace h := bdi h _ ex25
    refine lv_istore_n (lv' := [(2, .int x25), (0, .ref (ad 0)), (1, .int a1)]) hx hb dX9_clerk_23 rfl hl (by decide) rfl (fun ls hl => ?_)
    refine lv_iload_n hx hb dX9_clerk_24 rfl (lv_at hl 0 rfl) ?_
    refine lv_iconst (v := 5) hx hb dX9_clerk_25 (by decide) ?_
    refine lv_icmp_ne (tgt := 36) hx hb dX9_clerk_26 (by decide) (fun c26 => ?_) (fun c26 => ?_)
    · replace h := ifF h c26
      refine lv_aload_n hx hb dX9_clerk_36 rfl (lv_at hl 1 rfl) ?_
      refine m_get X w 0 sm_n0 sm_k0 ci9 2 (by decide) (fvR sm_k0 rfl sm_p2) rfl fl_X9_28 dX9_clerk_37 ?_
      refine lv_bipush (v := 42) hx hb dX9_clerk_40 (by decide) ?_
      refine lv_iload_n hx hb dX9_clerk_42 rfl (lv_at hl 0 rfl) ?_
      refine lv_iadd hx hb dX9_clerk_43 ?_
      refine lv_iload_n hx hb dX9_clerk_44 rfl (lv_at hl 2 rfl) ?_
      obtain ⟨g27, h⟩ := cki h
      refine m_iast X w 2 sm_n2 sm_k2 sm_z2 g27 dX9_clerk_45 (fun V28 H locs eV28 w => ?_)
      replace h := bdi h _ eV28
      refine lv_aload_n hx hb dX9_clerk_46 rfl (lv_at hl 1 rfl) ?_
      refine m_get X w 0 sm_n0 sm_k0 ci9 2 (by decide) (fvR sm_k0 rfl sm_p2) rfl fl_X9_28 dX9_clerk_47 ?_
      refine lv_bipush (v := 25) hx hb dX9_clerk_50 (by decide) ?_
      refine lv_iload_n hx hb dX9_clerk_52 rfl (lv_at hl 0 rfl) ?_
      refine lv_iadd hx hb dX9_clerk_53 ?_
      refine lv_iconst (v := 0) hx hb dX9_clerk_54 (by decide) ?_
      obtain ⟨g29, h⟩ := cki h
      refine m_iast X w 2 sm_n2 sm_k2 sm_z2 g29 dX9_clerk_55 (fun V30 H locs eV30 w => ?_)
      replace h := bdi h _ eV30
      refine lv_aload_n hx hb dX9_clerk_56 rfl (lv_at hl 1 rfl) ?_
      refine m_get X w 0 sm_n0 sm_k0 ci9 2 (by decide) (fvR sm_k0 rfl sm_p2) rfl fl_X9_28 dX9_clerk_57 ?_
      refine lv_bipush (v := 103) hx hb dX9_clerk_60 (by decide) ?_
      refine lv_dup2_11 hx hb dX9_clerk_62 rfl rfl ?_
      obtain ⟨g31, h⟩ := cki h
      refine m_iald X w 2 sm_n2 sm_k2 sm_z2 g31 dX9_clerk_63 ?_
      refine lv_iconst (v := 1) hx hb dX9_clerk_64 (by decide) ?_
      refine lv_iadd hx hb dX9_clerk_65 ?_
      obtain ⟨g32, h⟩ := cki h
      refine m_iast X w 2 sm_n2 sm_k2 sm_z2 g32 dX9_clerk_66 (fun V33 H locs eV33 w => ?_)
      replace h := bdi h _ eV33
      refine lv_aload_n hx hb dX9_clerk_67 rfl (lv_at hl 1 rfl) ?_
      refine lv_iload_n hx hb dX9_clerk_68 rfl (lv_at hl 0 rfl) ?_
      obtain ⟨r34, V36, q35, h⟩ := obi h
      refine m_ci (m_rV (As := [.int x25]) (rest := []) X w hl mi_X9_goodAnew ml_X9_112 0 sm_n0 sm_k0 rfl (c_X9_goodAnew l D cy ad A Kc C0 N z V33 x25 r34 V36 q35) ⟨⟨rfl, rfl, Nat.le_of_ble_eq_true rfl, Nat.le_of_ble_eq_true rfl⟩, Nat.le_of_ble_eq_true rfl, Nat.le_of_ble_eq_true rfl⟩ rfl rfl (Nat.le_of_ble_eq_true rfl) dX9_clerk_69) w (fun H locs w => ?_)
      obtain ⟨rfl, rfl⟩ := reti h
      exact m_ri X w hr hlocks dX9_clerk_72
    · replace h := ifT h c26
      refine lv_aload_n hx hb dX9_clerk_29 rfl (lv_at hl 1 rfl) ?_
      refine lv_bipush (v := (-5)) hx hb dX9_clerk_30 (by decide) ?_
      obtain ⟨r37, V39, q38, h⟩ := obi h
      refine m_ci (m_rV (As := [.int (-5 : Int32)]) (rest := []) X w hl mi_X9_refuses ml_X9_109 0 sm_n0 sm_k0 rfl (c_X9_refuses l D cy ad A Kc C0 N z V (-5 : Int32) r37 V39 q38) ⟨⟨rfl, rfl, Nat.le_of_ble_eq_true rfl, Nat.le_of_ble_eq_true rfl⟩, Nat.le_of_ble_eq_true rfl, Nat.le_of_ble_eq_true rfl⟩ rfl rfl (Nat.le_of_ble_eq_true rfl) dX9_clerk_32) w (fun H locs w => ?_)
      obtain ⟨rfl, rfl⟩ := reti h
      exact m_ri X w hr hlocks dX9_clerk_35
  · replace h := ifT h c23
    refine lv_aload_n hx hb dX9_clerk_10 rfl (lv_at hl 0 rfl) ?_
    refine lv_iconst (v := (-1)) hx hb dX9_clerk_11 (by decide) ?_
    obtain ⟨r40, V42, q41, h⟩ := obi h
    refine m_ci (m_rV (As := [.int (-1 : Int32)]) (rest := []) X w hl mi_X9_refuses ml_X9_109 0 sm_n0 sm_k0 rfl (c_X9_refuses l D cy ad A Kc C0 N z V (-1 : Int32) r40 V42 q41) ⟨⟨rfl, rfl, Nat.le_of_ble_eq_true rfl, Nat.le_of_ble_eq_true rfl⟩, Nat.le_of_ble_eq_true rfl, Nat.le_of_ble_eq_true rfl⟩ rfl rfl (Nat.le_of_ble_eq_true rfl) dX9_clerk_12) w (fun H locs w => ?_)
    obtain ⟨rfl, rfl⟩ := reti h
    exact m_ri X w hr hlocks dX9_clerk_15
def f_X9_of (N : Nat) (V : Vt) (a1 : Int32) (a2 : Int32) : Option Int32 := ob1 (f_X9_isClerk N V a1) (fun r5 => if r5 = 0 then some (-1 : Int32) else if a2 = (0 : Int32) then ck ((42 : Int32) + a1) 5715 (some (V.2.1 2 ((42 : Int32) + a1).toNatClampNeg)) else if a2 = (1 : Int32) then ck ((25 : Int32) + a1) 5715 (some (V.2.1 2 ((25 : Int32) + a1).toNatClampNeg)) else some (-1 : Int32))
set_option maxHeartbeats 4000000 in
set_option maxRecDepth 100000 in
theorem c_X9_of (l : Launch) (D : va_G) (cy : Nat → ClassId) (ad : Nat → Nat) (A : Nat → Prop) (Kc : State → Prop) (C0 : Cx ad A Kc) (N : Nat) (z : Nat) (V : Vt) (a1 : Int32) (a2 : Int32) (r : Int32) (h : f_X9_of N V a1 a2 = some r) : Met l yX9_of (mw yX9_of cX9_of 3 (some .int)) { frames := 2, cells := 0, slots := 0, locals := 43 } (PreM D cy ad Kc (SM z) V [.ref (ad 0), .int a1, .int a2]) (QI D cy ad A r (SM z) V) 0 0 A := by
  refine ct_go C0 (own := RX9) rfl (by decide) rfl ?_
  intro p e s m below meth c ls H locs X hr hlocks hnm hl w
  have hx := X.1.1
  have hb := X.1.2.1
  have hown := X.2.1
  have hts := X.2.2.1
  have hl : lv_has ls 3 [(0, .ref (ad 0)), (1, .int a1), (2, .int a2)] := hl
  rw [f_X9_of] at h
  refine lv_aload_n hx hb dX9_of_0 rfl (lv_at hl 0 rfl) ?_
  refine lv_iload_n hx hb dX9_of_1 rfl (lv_at hl 1 rfl) ?_
  obtain ⟨r5, q6, h⟩ := ob1i h
  refine m_ci (m_rV (As := [.int a1]) (rest := []) X w hl mi_X9_isClerk ml_X9_136 0 sm_n0 sm_k0 rfl (c_X9_isClerk l D cy ad A Kc C0 N z V a1 r5 q6) ⟨⟨rfl, rfl, Nat.le_of_ble_eq_true rfl, Nat.le_of_ble_eq_true rfl⟩, Nat.le_of_ble_eq_true rfl, Nat.le_of_ble_eq_true rfl⟩ rfl rfl (Nat.le_of_ble_eq_true rfl) dX9_of_2) w (fun H locs w => ?_)
  refine lv_if_ne (tgt := 10) hx hb dX9_of_5 (by decide) (fun c7 => ?_) (fun c7 => ?_)
  · replace h := ifF h c7
    refine lv_iload_n hx hb dX9_of_10 rfl (lv_at hl 2 rfl) ?_
    rcases Decidable.em (a2 = (0 : Int32)) with c8 | c8
    · replace h := ifT h c8
      refine lv_lookup (tgt := 36) (off := 25) hx hb dX9_of_11 (by decide) (by rw [c8]; rfl) (by decide) ?_
      refine lv_aload_n hx hb dX9_of_36 rfl (lv_at hl 0 rfl) ?_
      refine m_get X w 0 sm_n0 sm_k0 ci9 2 (by decide) (fvR sm_k0 rfl sm_p2) rfl fl_X9_28 dX9_of_37 ?_
      refine lv_bipush (v := 42) hx hb dX9_of_40 (by decide) ?_
      refine lv_iload_n hx hb dX9_of_42 rfl (lv_at hl 1 rfl) ?_
      refine lv_iadd hx hb dX9_of_43 ?_
      obtain ⟨g9, h⟩ := cki h
      refine m_iald X w 2 sm_n2 sm_k2 sm_z2 g9 dX9_of_44 ?_
      obtain rfl := Option.some.inj h
      exact m_ri X w hr hlocks dX9_of_45
    · replace h := ifF h c8
      rcases Decidable.em (a2 = (1 : Int32)) with c10 | c10
      · replace h := ifT h c10
        refine lv_lookup (tgt := 46) (off := 35) hx hb dX9_of_11 (by decide) (by rw [c10]; rfl) (by decide) ?_
        refine lv_aload_n hx hb dX9_of_46 rfl (lv_at hl 0 rfl) ?_
        refine m_get X w 0 sm_n0 sm_k0 ci9 2 (by decide) (fvR sm_k0 rfl sm_p2) rfl fl_X9_28 dX9_of_47 ?_
        refine lv_bipush (v := 25) hx hb dX9_of_50 (by decide) ?_
        refine lv_iload_n hx hb dX9_of_52 rfl (lv_at hl 1 rfl) ?_
        refine lv_iadd hx hb dX9_of_53 ?_
        obtain ⟨g11, h⟩ := cki h
        refine m_iald X w 2 sm_n2 sm_k2 sm_z2 g11 dX9_of_54 ?_
        obtain rfl := Option.some.inj h
        exact m_ri X w hr hlocks dX9_of_55
      · replace h := ifF h c10
        refine lv_lookup (tgt := 56) (off := 45) hx hb dX9_of_11 (by decide) (by show Op.lookupswitch.offset [(0, 25), (1, 35)] 45 (a2).toInt = _; rw [lv_osw (a := 0) c8 (by decide)]; rw [lv_osw (a := 1) c10 (by decide)]; rfl) (by decide) ?_
        refine lv_iconst (v := (-1)) hx hb dX9_of_56 (by decide) ?_
        obtain rfl := Option.some.inj h
        exact m_ri X w hr hlocks dX9_of_57
  · replace h := ifT h c7
    refine lv_iconst (v := (-1)) hx hb dX9_of_8 (by decide) ?_
    obtain rfl := Option.some.inj h
    exact m_ri X w hr hlocks dX9_of_9
def f_X9_terms (N : Nat) (V : Vt) (a1 : Int32) (a2 : Int32) : Option (Int32 × Vt) := ob1 (f_X9_isTerm N a1 a2) (fun r17 => if r17 = 0 then ob (f_X9_refuses N V (-1 : Int32)) (fun r31 V33 => some (r31, V33)) else ob1 (f_X9_termAt N a1) (fun r20 => ck r20 5715 (bd (V.2.1 2 r20.toNatClampNeg) (fun x23 => ob1 (f_X9_termAt N a1) (fun r24 => ck r24 5715 (bd (sA V 2 r24.toNatClampNeg a2) (fun V27 => ob (f_X9_goodAnew N V27 x23) (fun r28 V30 => some (r28, V30)))))))))
set_option maxHeartbeats 4000000 in
set_option maxRecDepth 100000 in
theorem c_X9_terms (l : Launch) (D : va_G) (cy : Nat → ClassId) (ad : Nat → Nat) (A : Nat → Prop) (Kc : State → Prop) (C0 : Cx ad A Kc) (N : Nat) (z : Nat) (V : Vt) (a1 : Int32) (a2 : Int32) (r : Int32) (V' : Vt) (h : f_X9_terms N V a1 a2 = some (r, V')) : Met l yX9_terms (mw yX9_terms cX9_terms 4 (some .int)) { frames := 2, cells := 0, slots := 0, locals := 43 } (PreM D cy ad Kc (SM z) V [.ref (ad 0), .int a1, .int a2]) (QI D cy ad A r (SM z) V') 0 0 A := by
  refine ct_go C0 (own := RX9) rfl (by decide) rfl ?_
  intro p e s m below meth c ls H locs X hr hlocks hnm hl w
  have hx := X.1.1
  have hb := X.1.2.1
  have hown := X.2.1
  have hts := X.2.2.1
  have hl : lv_has ls 4 [(0, .ref (ad 0)), (1, .int a1), (2, .int a2)] := hl
  rw [f_X9_terms] at h
  refine lv_iload_n hx hb dX9_terms_0 rfl (lv_at hl 1 rfl) ?_
  refine lv_iload_n hx hb dX9_terms_1 rfl (lv_at hl 2 rfl) ?_
  obtain ⟨r17, q18, h⟩ := ob1i h
  refine m_ci (m_rS (As := [.int a1, .int a2]) (rest := []) X w hl mi_X9_isTerm ml_X9_146 (c_X9_isTerm l D cy ad A Kc C0 N z V a1 a2 r17 q18) ⟨⟨rfl, rfl, Nat.le_of_ble_eq_true rfl, Nat.le_of_ble_eq_true rfl⟩, Nat.le_of_ble_eq_true rfl, Nat.le_of_ble_eq_true rfl⟩ rfl rfl (Nat.le_of_ble_eq_true rfl) dX9_terms_2) w (fun H locs w => ?_)
  refine lv_if_ne (tgt := 14) hx hb dX9_terms_5 (by decide) (fun c19 => ?_) (fun c19 => ?_)
  · replace h := ifF h c19
    refine lv_aload_n hx hb dX9_terms_14 rfl (lv_at hl 0 rfl) ?_
    refine m_get X w 0 sm_n0 sm_k0 ci9 2 (by decide) (fvR sm_k0 rfl sm_p2) rfl fl_X9_28 dX9_terms_15 ?_
    refine lv_iload_n hx hb dX9_terms_18 rfl (lv_at hl 1 rfl) ?_
    obtain ⟨r20, q21, h⟩ := ob1i h
    refine m_ci (m_rS (As := [.int a1]) (rest := [.ref (ad 2)]) X w hl mi_X9_termAt ml_X9_149 (c_X9_termAt l D cy ad A Kc C0 N z V a1 r20 q21) ⟨⟨rfl, rfl, Nat.le_of_ble_eq_true rfl, Nat.le_of_ble_eq_true rfl⟩, Nat.le_of_ble_eq_true rfl, Nat.le_of_ble_eq_true rfl⟩ rfl rfl (Nat.le_of_ble_eq_true rfl) dX9_terms_19) w (fun H locs w => ?_)
    obtain ⟨g22, h⟩ := cki h
    refine m_iald X w 2 sm_n2 sm_k2 sm_z2 g22 dX9_terms_22 ?_
    refine lv_topi (fun x23 ex23 => ?_)
    replace h := bdi h _ ex23
    refine lv_istore_n (lv' := [(3, .int x23), (0, .ref (ad 0)), (1, .int a1), (2, .int a2)]) hx hb dX9_terms_23 rfl hl (by decide) rfl (fun ls hl => ?_)
    refine lv_aload_n hx hb dX9_terms_24 rfl (lv_at hl 1 rfl) ?_
    refine m_get X w 0 sm_n0 sm_k0 ci9 2 (by decide) (fvR sm_k0 rfl sm_p2) rfl fl_X9_28 dX9_terms_25 ?_
    refine lv_iload_n hx hb dX9_terms_28 rfl (lv_at hl 2 rfl) ?_
    obtain ⟨r24, q25, h⟩ := ob1i h
    refine m_ci (m_rS (As := [.int a1]) (rest := [.ref (ad 2)]) X w hl mi_X9_termAt ml_X9_149 (c_X9_termAt l D cy ad A Kc C0 N z V a1 r24 q25) ⟨⟨rfl, rfl, Nat.le_of_ble_eq_true rfl, Nat.le_of_ble_eq_true rfl⟩, Nat.le_of_ble_eq_true rfl, Nat.le_of_ble_eq_true rfl⟩ rfl rfl (Nat.le_of_ble_eq_true rfl) dX9_terms_29) w (fun H locs w => ?_)
    refine lv_iload_n hx hb dX9_terms_32 rfl (lv_at hl 3 rfl) ?_
    obtain ⟨g26, h⟩ := cki h
    refine m_iast X w 2 sm_n2 sm_k2 sm_z2 g26 dX9_terms_33 (fun V27 H locs eV27 w => ?_)
    replace h := bdi h _ eV27
    refine lv_aload_n hx hb dX9_terms_34 rfl (lv_at hl 1 rfl) ?_
    refine lv_iload_n hx hb dX9_terms_35 rfl (lv_at hl 0 rfl) ?_
    obtain ⟨r28, V30, q29, h⟩ := obi h
    refine m_ci (m_rV (As := [.int x23]) (rest := []) X w hl mi_X9_goodAnew ml_X9_112 0 sm_n0 sm_k0 rfl (c_X9_goodAnew l D cy ad A Kc C0 N z V27 x23 r28 V30 q29) ⟨⟨rfl, rfl, Nat.le_of_ble_eq_true rfl, Nat.le_of_ble_eq_true rfl⟩, Nat.le_of_ble_eq_true rfl, Nat.le_of_ble_eq_true rfl⟩ rfl rfl (Nat.le_of_ble_eq_true rfl) dX9_terms_36) w (fun H locs w => ?_)
    obtain ⟨rfl, rfl⟩ := reti h
    exact m_ri X w hr hlocks dX9_terms_39
  · replace h := ifT h c19
    refine lv_aload_n hx hb dX9_terms_8 rfl (lv_at hl 0 rfl) ?_
    refine lv_iconst (v := (-1)) hx hb dX9_terms_9 (by decide) ?_
    obtain ⟨r31, V33, q32, h⟩ := obi h
    refine m_ci (m_rV (As := [.int (-1 : Int32)]) (rest := []) X w hl mi_X9_refuses ml_X9_109 0 sm_n0 sm_k0 rfl (c_X9_refuses l D cy ad A Kc C0 N z V (-1 : Int32) r31 V33 q32) ⟨⟨rfl, rfl, Nat.le_of_ble_eq_true rfl, Nat.le_of_ble_eq_true rfl⟩, Nat.le_of_ble_eq_true rfl, Nat.le_of_ble_eq_true rfl⟩ rfl rfl (Nat.le_of_ble_eq_true rfl) dX9_terms_10) w (fun H locs w => ?_)
    obtain ⟨rfl, rfl⟩ := reti h
    exact m_ri X w hr hlocks dX9_terms_13
def f_X9_row_166 (N : Nat) (K40 : Vt → Int32 → Int32 → Int32 → Option (Int32 × Vt)) (V : Vt) (v1 : Int32) (v2 : Int32) (v3 : Int32) (s0 : Int32) (s1 : Int32) : Option (Int32 × Vt) := bd (sF V 0 6 (s1 + s0)) (fun V44 => bd (v3 + (3 : Int32)) (fun x45 => K40 V44 v1 v2 x45))
def f_X9_row_149 (N : Nat) (K40 : Vt → Int32 → Int32 → Int32 → Option (Int32 × Vt)) (V : Vt) (v1 : Int32) (v3 : Int32) (v4 : Int32) (s0 : Int32) (s1 : Int32) : Option (Int32 × Vt) := bd (s1 + s0) (fun x42 => if v4 = 0 then f_X9_row_166 N K40 V v1 x42 v3 (1 : Int32) (V.1 0 6) else f_X9_row_166 N K40 V v1 x42 v3 (0 : Int32) (V.1 0 6))
def f_X9_row_138 (N : Nat) (K40 : Vt → Int32 → Int32 → Int32 → Option (Int32 × Vt)) (V : Vt) (v1 : Int32) (v2 : Int32) (v3 : Int32) (v4 : Int32) : Option (Int32 × Vt) := if v4 = 0 then f_X9_row_149 N K40 V v1 v3 v4 (0 : Int32) v2 else f_X9_row_149 N K40 V v1 v3 v4 (1 : Int32) v2
def f_X9_row_98 (N : Nat) (K40 : Vt → Int32 → Int32 → Int32 → Option (Int32 × Vt)) (V : Vt) (v1 : Int32) (v2 : Int32) (v3 : Int32) (s0 : Int32) : Option (Int32 × Vt) := if s0 = 0 then f_X9_row_138 N K40 V v1 v2 v3 s0 else ck v3 400 (ck (v3 + (1 : Int32)) 400 (ck (v3 + (2 : Int32)) 400 (ck ((0 : Int32) + (V.2.1 7 v3.toNatClampNeg)) 5715 (bd (sA V 2 ((0 : Int32) + (V.2.1 7 v3.toNatClampNeg)).toNatClampNeg (((100 : Int32) * (V.2.1 7 (v3 + (1 : Int32)).toNatClampNeg)) + (V.2.1 7 (v3 + (2 : Int32)).toNatClampNeg))) (fun V50 => f_X9_row_138 N K40 V50 v1 v2 v3 s0)))))
def f_X9_row_97 (N : Nat) (K40 : Vt → Int32 → Int32 → Int32 → Option (Int32 × Vt)) (V : Vt) (v1 : Int32) (v2 : Int32) (v3 : Int32) : Option (Int32 × Vt) := f_X9_row_98 N K40 V v1 v2 v3 (0 : Int32)
def f_X9_row_40 (N : Nat) : Nat → Vt → Int32 → Int32 → Int32 → Option (Int32 × Vt)
  | 0, _, _, _, _ => none
  | n + 1, V, v1, v2, v3 => if v1 < (v3 + (3 : Int32)) then ob (f_X9_goodAnew N V v2) (fun r33 V35 => some (r33, V35)) else ck v3 400 (ob1 (f_X9_isCell N (V.2.1 7 v3.toNatClampNeg)) (fun r37 => if r37 = 0 then f_X9_row_97 N (f_X9_row_40 N n) V v1 v2 v3 else ck (v3 + (1 : Int32)) 400 (ob1 (f_X9_lies N (V.2.1 7 (v3 + (1 : Int32)).toNatClampNeg) (0 : Int32) (9 : Int32)) (fun r52 => if r52 = 0 then f_X9_row_97 N (f_X9_row_40 N n) V v1 v2 v3 else ck (v3 + (2 : Int32)) 400 (ob1 (f_X9_lies N (V.2.1 7 (v3 + (2 : Int32)).toNatClampNeg) (0 : Int32) (99 : Int32)) (fun r56 => if r56 = 0 then f_X9_row_97 N (f_X9_row_40 N n) V v1 v2 v3 else f_X9_row_98 N (f_X9_row_40 N n) V v1 v2 v3 (1 : Int32)))))))
def f_X9_row_35 (N : Nat) (V : Vt) (v1 : Int32) (v2 : Int32) (s0 : Int32) : Option (Int32 × Vt) := bd (sF V 0 6 s0) (fun V31 => f_X9_row_40 N N V31 v1 v2 (0 : Int32))
def f_X9_row (N : Nat) (V : Vt) : Option (Int32 × Vt) := bd (V.1 0 13) (fun x27 => bd (sF V 0 13 (0 : Int32)) (fun V28 => if x27 = 0 then ob (f_X9_refuses N V28 (-6 : Int32)) (fun r59 V61 => some (r59, V61)) else if (x27 - x27 / (3 : Int32) * (3 : Int32)) = 0 then f_X9_row_35 N V28 x27 (0 : Int32) (0 : Int32) else f_X9_row_35 N V28 x27 (0 : Int32) (1 : Int32)))
set_option maxHeartbeats 4000000 in
set_option maxRecDepth 100000 in
theorem c_X9_row (l : Launch) (D : va_G) (cy : Nat → ClassId) (ad : Nat → Nat) (A : Nat → Prop) (Kc : State → Prop) (C0 : Cx ad A Kc) (N : Nat) (z : Nat) (V : Vt) (r : Int32) (V' : Vt) (h : f_X9_row N V = some (r, V')) : Met l yX9_row (mw yX9_row cX9_row 5 (some .int)) { frames := 2, cells := 0, slots := 0, locals := 42 } (PreM D cy ad Kc (SM z) V [.ref (ad 0)]) (QI D cy ad A r (SM z) V') 0 0 A := by
  refine ct_go C0 (own := RX9) rfl (by decide) rfl ?_
  intro p e s m below meth c ls H locs X hr hlocks hnm hl w
  have hx := X.1.1
  have hb := X.1.2.1
  have hown := X.2.1
  have hts := X.2.2.1
  have hl : lv_has ls 5 [(0, .ref (ad 0))] := hl
  obtain ⟨G, hG⟩ : ∃ G : Nat → Vt → List (Nat × Value) → List Value → Prop, G = fun pc V lv st => ∀ (H : Heap) (locs : List Loc) (ls : Array Slot), Wd D cy ad A s.heap (SM z) V H locs → lv_has ls 5 lv → W p l e { frames := 2, cells := 0, slots := 0, locals := 42 } s m ([.ref (ad 0)] : List Value).toArray below meth c H locs 0 0 (MQ below (QI D cy ad A r (SM z) V') ([.ref (ad 0)] : List Value).toArray s 0 0 A) (F0 m pc ls st) := ⟨_, rfl⟩
  have L40 : ∀ (n40 : Nat) (V : Vt) (v1 : Int32) (v2 : Int32) (v3 : Int32), f_X9_row_40 N n40 V v1 v2 v3 = some (r, V') → G 40 V [(0, .ref (ad 0)), (1, .int v1), (2, .int v2), (3, .int v3)] [] := by
    intro n40
    induction n40 with
    | zero => intro V v1 v2 v3 h; rw [f_X9_row_40] at h; cases h
    | succ n40 ih40 =>
      have B166 : ∀ (V : Vt) (v1 : Int32) (v2 : Int32) (v3 : Int32) (s0 : Int32) (s1 : Int32), f_X9_row_166 N (f_X9_row_40 N n40) V v1 v2 v3 s0 s1 = some (r, V') → G 166 V [(0, .ref (ad 0)), (1, .int v1), (2, .int v2), (3, .int v3)] [.int s0, .int s1, .ref (ad 0)] := by
        intro V v1 v2 v3 s0 s1 h
        rw [hG]
        intro H locs ls w hl
        rw [f_X9_row_166] at h
        refine lv_iadd hx hb dX9_row_166 ?_
        refine m_put X w 0 sm_n0 sm_k0 ci9 6 (by decide) rfl rfl rfl rfl rfl fl_X9_155 dX9_row_167 (fun V44 H locs eV44 w => ?_)
        replace h := bdi h _ eV44
        obtain ⟨x45, ex45⟩ : ∃ y : Int32, y = v3 + (3 : Int32) := ⟨_, rfl⟩
        replace h := bdi h _ ex45
        refine lv_iinc (v := x45) (lv' := [(3, .int x45), (0, .ref (ad 0)), (1, .int v1), (2, .int v2)]) hx hb dX9_row_170 hl (k := 3) rfl (by rw [ex45]; rfl) (by decide) rfl (fun ls hl => ?_)
        refine lv_goto (tgt := 40) hx hb dX9_row_173 (by decide) ?_
        have g := ih40 V44 v1 v2 x45 h
        rw [hG] at g
        exact g H locs ls w (lv_sub hl [1, 2, 3, 0] rfl)
      have B149 : ∀ (V : Vt) (v1 : Int32) (v3 : Int32) (v4 : Int32) (s0 : Int32) (s1 : Int32), f_X9_row_149 N (f_X9_row_40 N n40) V v1 v3 v4 s0 s1 = some (r, V') → G 149 V [(0, .ref (ad 0)), (1, .int v1), (3, .int v3), (4, .int v4)] [.int s0, .int s1] := by
        intro V v1 v3 v4 s0 s1 h
        rw [hG]
        intro H locs ls w hl
        rw [f_X9_row_149] at h
        refine lv_iadd hx hb dX9_row_149 ?_
        refine lv_topi (fun x42 ex42 => ?_)
        replace h := bdi h _ ex42
        refine lv_istore_n (lv' := [(2, .int x42), (0, .ref (ad 0)), (1, .int v1), (3, .int v3), (4, .int v4)]) hx hb dX9_row_150 rfl hl (by decide) rfl (fun ls hl => ?_)
        refine lv_aload_n hx hb dX9_row_151 rfl (lv_at hl 1 rfl) ?_
        refine lv_dup hx hb dX9_row_152 rfl ?_
        refine m_get X w 0 sm_n0 sm_k0 ci9 6 (by decide) (fvI sm_k0 rfl) rfl fl_X9_155 dX9_row_153 ?_
        refine lv_iload hx hb dX9_row_156 (lv_at hl 4 rfl) ?_
        refine lv_if_eq (tgt := 165) hx hb dX9_row_158 (by decide) (fun c43 => ?_) (fun c43 => ?_)
        · replace h := ifT h c43
          refine lv_iconst (v := 1) hx hb dX9_row_165 (by decide) ?_
          have g := B166 V v1 x42 v3 (1 : Int32) (V.1 0 6) h
          rw [hG] at g
          exact g H locs ls w (lv_sub hl [1, 2, 0, 3] rfl)
        · replace h := ifF h c43
          refine lv_iconst (v := 0) hx hb dX9_row_161 (by decide) ?_
          refine lv_goto (tgt := 166) hx hb dX9_row_162 (by decide) ?_
          have g := B166 V v1 x42 v3 (0 : Int32) (V.1 0 6) h
          rw [hG] at g
          exact g H locs ls w (lv_sub hl [1, 2, 0, 3] rfl)
      have B138 : ∀ (V : Vt) (v1 : Int32) (v2 : Int32) (v3 : Int32) (v4 : Int32), f_X9_row_138 N (f_X9_row_40 N n40) V v1 v2 v3 v4 = some (r, V') → G 138 V [(0, .ref (ad 0)), (1, .int v1), (2, .int v2), (3, .int v3), (4, .int v4)] [] := by
        intro V v1 v2 v3 v4 h
        rw [hG]
        intro H locs ls w hl
        rw [f_X9_row_138] at h
        refine lv_iload_n hx hb dX9_row_138 rfl (lv_at hl 2 rfl) ?_
        refine lv_iload hx hb dX9_row_139 (lv_at hl 4 rfl) ?_
        refine lv_if_eq (tgt := 148) hx hb dX9_row_141 (by decide) (fun c41 => ?_) (fun c41 => ?_)
        · replace h := ifT h c41
          refine lv_iconst (v := 0) hx hb dX9_row_148 (by decide) ?_
          have g := B149 V v1 v3 v4 (0 : Int32) v2 h
          rw [hG] at g
          exact g H locs ls w (lv_sub hl [0, 1, 3, 4] rfl)
        · replace h := ifF h c41
          refine lv_iconst (v := 1) hx hb dX9_row_144 (by decide) ?_
          refine lv_goto (tgt := 149) hx hb dX9_row_145 (by decide) ?_
          have g := B149 V v1 v3 v4 (1 : Int32) v2 h
          rw [hG] at g
          exact g H locs ls w (lv_sub hl [0, 1, 3, 4] rfl)
      have B98 : ∀ (V : Vt) (v1 : Int32) (v2 : Int32) (v3 : Int32) (s0 : Int32), f_X9_row_98 N (f_X9_row_40 N n40) V v1 v2 v3 s0 = some (r, V') → G 98 V [(0, .ref (ad 0)), (1, .int v1), (2, .int v2), (3, .int v3)] [.int s0] := by
        intro V v1 v2 v3 s0 h
        rw [hG]
        intro H locs ls w hl
        rw [f_X9_row_98] at h
        refine lv_istore (lv' := [(4, .int s0), (0, .ref (ad 0)), (1, .int v1), (2, .int v2), (3, .int v3)]) hx hb dX9_row_98 hl (by decide) rfl (fun ls hl => ?_)
        refine lv_iload hx hb dX9_row_100 (lv_at hl 0 rfl) ?_
        refine lv_if_eq (tgt := 138) hx hb dX9_row_102 (by decide) (fun c40 => ?_) (fun c40 => ?_)
        · replace h := ifT h c40
          have g := B138 V v1 v2 v3 s0 h
          rw [hG] at g
          exact g H locs ls w (lv_sub hl [1, 2, 3, 4, 0] rfl)
        · replace h := ifF h c40
          refine lv_aload_n hx hb dX9_row_105 rfl (lv_at hl 1 rfl) ?_
          refine m_get X w 0 sm_n0 sm_k0 ci9 2 (by decide) (fvR sm_k0 rfl sm_p2) rfl fl_X9_28 dX9_row_106 ?_
          refine lv_iconst (v := 0) hx hb dX9_row_109 (by decide) ?_
          refine lv_aload_n hx hb dX9_row_110 rfl (lv_at hl 1 rfl) ?_
          refine m_get X w 0 sm_n0 sm_k0 ci9 11 (by decide) (fvR sm_k0 rfl sm_p11) rfl fl_X9_45 dX9_row_111 ?_
          refine lv_iload_n hx hb dX9_row_114 rfl (lv_at hl 4 rfl) ?_
          obtain ⟨g46, h⟩ := cki h
          refine m_bald X w 7 sm_n7 sm_k7 sm_z7 g46 dX9_row_115 ?_
          refine lv_iadd hx hb dX9_row_116 ?_
          refine lv_bipush (v := 100) hx hb dX9_row_117 (by decide) ?_
          refine lv_aload_n hx hb dX9_row_119 rfl (lv_at hl 1 rfl) ?_
          refine m_get X w 0 sm_n0 sm_k0 ci9 11 (by decide) (fvR sm_k0 rfl sm_p11) rfl fl_X9_45 dX9_row_120 ?_
          refine lv_iload_n hx hb dX9_row_123 rfl (lv_at hl 4 rfl) ?_
          refine lv_iconst (v := 1) hx hb dX9_row_124 (by decide) ?_
          refine lv_iadd hx hb dX9_row_125 ?_
          obtain ⟨g47, h⟩ := cki h
          refine m_bald X w 7 sm_n7 sm_k7 sm_z7 g47 dX9_row_126 ?_
          refine lv_imul hx hb dX9_row_127 ?_
          refine lv_aload_n hx hb dX9_row_128 rfl (lv_at hl 1 rfl) ?_
          refine m_get X w 0 sm_n0 sm_k0 ci9 11 (by decide) (fvR sm_k0 rfl sm_p11) rfl fl_X9_45 dX9_row_129 ?_
          refine lv_iload_n hx hb dX9_row_132 rfl (lv_at hl 4 rfl) ?_
          refine lv_iconst (v := 2) hx hb dX9_row_133 (by decide) ?_
          refine lv_iadd hx hb dX9_row_134 ?_
          obtain ⟨g48, h⟩ := cki h
          refine m_bald X w 7 sm_n7 sm_k7 sm_z7 g48 dX9_row_135 ?_
          refine lv_iadd hx hb dX9_row_136 ?_
          obtain ⟨g49, h⟩ := cki h
          refine m_iast X w 2 sm_n2 sm_k2 sm_z2 g49 dX9_row_137 (fun V50 H locs eV50 w => ?_)
          replace h := bdi h _ eV50
          have g := B138 V50 v1 v2 v3 s0 h
          rw [hG] at g
          exact g H locs ls w (lv_sub hl [1, 2, 3, 4, 0] rfl)
      have B97 : ∀ (V : Vt) (v1 : Int32) (v2 : Int32) (v3 : Int32), f_X9_row_97 N (f_X9_row_40 N n40) V v1 v2 v3 = some (r, V') → G 97 V [(0, .ref (ad 0)), (1, .int v1), (2, .int v2), (3, .int v3)] [] := by
        intro V v1 v2 v3 h
        rw [hG]
        intro H locs ls w hl
        rw [f_X9_row_97] at h
        refine lv_iconst (v := 0) hx hb dX9_row_97 (by decide) ?_
        have g := B98 V v1 v2 v3 (0 : Int32) h
        rw [hG] at g
        exact g H locs ls w (lv_sub hl [0, 1, 2, 3] rfl)
      intro V v1 v2 v3 h
      rw [hG]
      intro H locs ls w hl
      rw [f_X9_row_40] at h
      refine lv_iload_n hx hb dX9_row_40 rfl (lv_at hl 3 rfl) ?_
      refine lv_iconst (v := 3) hx hb dX9_row_41 (by decide) ?_
      refine lv_iadd hx hb dX9_row_42 ?_
      refine lv_iload_n hx hb dX9_row_43 rfl (lv_at hl 1 rfl) ?_
      refine lv_icmp_gt (tgt := 176) hx hb dX9_row_44 (by decide) (fun c32 => ?_) (fun c32 => ?_)
      · replace h := ifT h c32
        refine lv_aload_n hx hb dX9_row_176 rfl (lv_at hl 0 rfl) ?_
        refine lv_iload_n hx hb dX9_row_177 rfl (lv_at hl 2 rfl) ?_
        obtain ⟨r33, V35, q34, h⟩ := obi h
        refine m_ci (m_rV (As := [.int v2]) (rest := []) X w hl mi_X9_goodAnew ml_X9_112 0 sm_n0 sm_k0 rfl (c_X9_goodAnew l D cy ad A Kc C0 N z V v2 r33 V35 q34) ⟨⟨rfl, rfl, Nat.le_of_ble_eq_true rfl, Nat.le_of_ble_eq_true rfl⟩, Nat.le_of_ble_eq_true rfl, Nat.le_of_ble_eq_true rfl⟩ rfl rfl (Nat.le_of_ble_eq_true rfl) dX9_row_178) w (fun H locs w => ?_)
        obtain ⟨rfl, rfl⟩ := reti h
        exact m_ri X w hr hlocks dX9_row_181
      · replace h := ifF h c32
        refine lv_aload_n hx hb dX9_row_47 rfl (lv_at hl 0 rfl) ?_
        refine m_get X w 0 sm_n0 sm_k0 ci9 11 (by decide) (fvR sm_k0 rfl sm_p11) rfl fl_X9_45 dX9_row_48 ?_
        refine lv_iload_n hx hb dX9_row_51 rfl (lv_at hl 3 rfl) ?_
        obtain ⟨g36, h⟩ := cki h
        refine m_bald X w 7 sm_n7 sm_k7 sm_z7 g36 dX9_row_52 ?_
        obtain ⟨r37, q38, h⟩ := ob1i h
        refine m_ci (m_rS (As := [.int (V.2.1 7 v3.toNatClampNeg)]) (rest := []) X w hl mi_X9_isCell ml_X9_115 (c_X9_isCell l D cy ad A Kc C0 N z V (V.2.1 7 v3.toNatClampNeg) r37 q38) ⟨⟨rfl, rfl, Nat.le_of_ble_eq_true rfl, Nat.le_of_ble_eq_true rfl⟩, Nat.le_of_ble_eq_true rfl, Nat.le_of_ble_eq_true rfl⟩ rfl rfl (Nat.le_of_ble_eq_true rfl) dX9_row_53) w (fun H locs w => ?_)
        refine lv_if_eq (tgt := 97) hx hb dX9_row_56 (by decide) (fun c39 => ?_) (fun c39 => ?_)
        · replace h := ifT h c39
          have g := B97 V v1 v2 v3 h
          rw [hG] at g
          exact g H locs ls w (lv_sub hl [0, 1, 2, 3] rfl)
        · replace h := ifF h c39
          refine lv_aload_n hx hb dX9_row_59 rfl (lv_at hl 0 rfl) ?_
          refine m_get X w 0 sm_n0 sm_k0 ci9 11 (by decide) (fvR sm_k0 rfl sm_p11) rfl fl_X9_45 dX9_row_60 ?_
          refine lv_iload_n hx hb dX9_row_63 rfl (lv_at hl 3 rfl) ?_
          refine lv_iconst (v := 1) hx hb dX9_row_64 (by decide) ?_
          refine lv_iadd hx hb dX9_row_65 ?_
          obtain ⟨g51, h⟩ := cki h
          refine m_bald X w 7 sm_n7 sm_k7 sm_z7 g51 dX9_row_66 ?_
          refine lv_iconst (v := 0) hx hb dX9_row_67 (by decide) ?_
          refine lv_bipush (v := 9) hx hb dX9_row_68 (by decide) ?_
          obtain ⟨r52, q53, h⟩ := ob1i h
          refine m_ci (m_rS (As := [.int (V.2.1 7 (v3 + (1 : Int32)).toNatClampNeg), .int (0 : Int32), .int (9 : Int32)]) (rest := []) X w hl mi_X9_lies ml_X9_18 (c_X9_lies l D cy ad A Kc C0 N z V (V.2.1 7 (v3 + (1 : Int32)).toNatClampNeg) (0 : Int32) (9 : Int32) r52 q53) ⟨⟨rfl, rfl, Nat.le_of_ble_eq_true rfl, Nat.le_of_ble_eq_true rfl⟩, Nat.le_of_ble_eq_true rfl, Nat.le_of_ble_eq_true rfl⟩ rfl rfl (Nat.le_of_ble_eq_true rfl) dX9_row_70) w (fun H locs w => ?_)
          refine lv_if_eq (tgt := 97) hx hb dX9_row_73 (by decide) (fun c54 => ?_) (fun c54 => ?_)
          · replace h := ifT h c54
            have g := B97 V v1 v2 v3 h
            rw [hG] at g
            exact g H locs ls w (lv_sub hl [0, 1, 2, 3] rfl)
          · replace h := ifF h c54
            refine lv_aload_n hx hb dX9_row_76 rfl (lv_at hl 0 rfl) ?_
            refine m_get X w 0 sm_n0 sm_k0 ci9 11 (by decide) (fvR sm_k0 rfl sm_p11) rfl fl_X9_45 dX9_row_77 ?_
            refine lv_iload_n hx hb dX9_row_80 rfl (lv_at hl 3 rfl) ?_
            refine lv_iconst (v := 2) hx hb dX9_row_81 (by decide) ?_
            refine lv_iadd hx hb dX9_row_82 ?_
            obtain ⟨g55, h⟩ := cki h
            refine m_bald X w 7 sm_n7 sm_k7 sm_z7 g55 dX9_row_83 ?_
            refine lv_iconst (v := 0) hx hb dX9_row_84 (by decide) ?_
            refine lv_bipush (v := 99) hx hb dX9_row_85 (by decide) ?_
            obtain ⟨r56, q57, h⟩ := ob1i h
            refine m_ci (m_rS (As := [.int (V.2.1 7 (v3 + (2 : Int32)).toNatClampNeg), .int (0 : Int32), .int (99 : Int32)]) (rest := []) X w hl mi_X9_lies ml_X9_18 (c_X9_lies l D cy ad A Kc C0 N z V (V.2.1 7 (v3 + (2 : Int32)).toNatClampNeg) (0 : Int32) (99 : Int32) r56 q57) ⟨⟨rfl, rfl, Nat.le_of_ble_eq_true rfl, Nat.le_of_ble_eq_true rfl⟩, Nat.le_of_ble_eq_true rfl, Nat.le_of_ble_eq_true rfl⟩ rfl rfl (Nat.le_of_ble_eq_true rfl) dX9_row_87) w (fun H locs w => ?_)
            refine lv_if_eq (tgt := 97) hx hb dX9_row_90 (by decide) (fun c58 => ?_) (fun c58 => ?_)
            · replace h := ifT h c58
              have g := B97 V v1 v2 v3 h
              rw [hG] at g
              exact g H locs ls w (lv_sub hl [0, 1, 2, 3] rfl)
            · replace h := ifF h c58
              refine lv_iconst (v := 1) hx hb dX9_row_93 (by decide) ?_
              refine lv_goto (tgt := 98) hx hb dX9_row_94 (by decide) ?_
              have g := B98 V v1 v2 v3 (1 : Int32) h
              rw [hG] at g
              exact g H locs ls w (lv_sub hl [0, 1, 2, 3] rfl)
  have B35 : ∀ (V : Vt) (v1 : Int32) (v2 : Int32) (s0 : Int32), f_X9_row_35 N V v1 v2 s0 = some (r, V') → G 35 V [(0, .ref (ad 0)), (1, .int v1), (2, .int v2)] [.int s0, .ref (ad 0)] := by
    intro V v1 v2 s0 h
    rw [hG]
    intro H locs ls w hl
    rw [f_X9_row_35] at h
    refine m_put X w 0 sm_n0 sm_k0 ci9 6 (by decide) rfl rfl rfl rfl rfl fl_X9_155 dX9_row_35 (fun V31 H locs eV31 w => ?_)
    replace h := bdi h _ eV31
    refine lv_iconst (v := 0) hx hb dX9_row_38 (by decide) ?_
    refine lv_istore_n (lv' := [(3, .int (0 : Int32)), (0, .ref (ad 0)), (1, .int v1), (2, .int v2)]) hx hb dX9_row_39 rfl hl (by decide) rfl (fun ls hl => ?_)
    have g := L40 N V31 v1 v2 (0 : Int32) h
    rw [hG] at g
    exact g H locs ls w (lv_sub hl [1, 2, 3, 0] rfl)
  rw [f_X9_row] at h
  refine lv_aload_n hx hb dX9_row_0 rfl (lv_at hl 0 rfl) ?_
  refine m_get X w 0 sm_n0 sm_k0 ci9 13 (by decide) (fvI sm_k0 rfl) rfl fl_X9_152 dX9_row_1 ?_
  refine lv_topi (fun x27 ex27 => ?_)
  replace h := bdi h _ ex27
  refine lv_istore_n (lv' := [(1, .int x27), (0, .ref (ad 0))]) hx hb dX9_row_4 rfl hl (by decide) rfl (fun ls hl => ?_)
  refine lv_aload_n hx hb dX9_row_5 rfl (lv_at hl 1 rfl) ?_
  refine lv_iconst (v := 0) hx hb dX9_row_6 (by decide) ?_
  refine m_put X w 0 sm_n0 sm_k0 ci9 13 (by decide) rfl rfl rfl rfl rfl fl_X9_152 dX9_row_7 (fun V28 H locs eV28 w => ?_)
  replace h := bdi h _ eV28
  refine lv_iload_n hx hb dX9_row_10 rfl (lv_at hl 0 rfl) ?_
  refine lv_if_ne (tgt := 21) hx hb dX9_row_11 (by decide) (fun c29 => ?_) (fun c29 => ?_)
  · replace h := ifF h c29
    refine lv_iconst (v := 0) hx hb dX9_row_21 (by decide) ?_
    refine lv_istore_n (lv' := [(2, .int (0 : Int32)), (1, .int x27), (0, .ref (ad 0))]) hx hb dX9_row_22 rfl hl (by decide) rfl (fun ls hl => ?_)
    refine lv_aload_n hx hb dX9_row_23 rfl (lv_at hl 2 rfl) ?_
    refine lv_iload_n hx hb dX9_row_24 rfl (lv_at hl 1 rfl) ?_
    refine lv_iconst (v := 3) hx hb dX9_row_25 (by decide) ?_
    refine lv_irem hx hb dX9_row_26 (by decide) ?_
    refine lv_if_ne (tgt := 34) hx hb dX9_row_27 (by decide) (fun c30 => ?_) (fun c30 => ?_)
    · replace h := ifF h c30
      refine lv_iconst (v := 1) hx hb dX9_row_34 (by decide) ?_
      have g := B35 V28 x27 (0 : Int32) (1 : Int32) h
      rw [hG] at g
      exact g H locs ls w (lv_sub hl [2, 1, 0] rfl)
    · replace h := ifT h c30
      refine lv_iconst (v := 0) hx hb dX9_row_30 (by decide) ?_
      refine lv_goto (tgt := 35) hx hb dX9_row_31 (by decide) ?_
      have g := B35 V28 x27 (0 : Int32) (0 : Int32) h
      rw [hG] at g
      exact g H locs ls w (lv_sub hl [2, 1, 0] rfl)
  · replace h := ifT h c29
    refine lv_aload_n hx hb dX9_row_14 rfl (lv_at hl 1 rfl) ?_
    refine lv_bipush (v := (-6)) hx hb dX9_row_15 (by decide) ?_
    obtain ⟨r59, V61, q60, h⟩ := obi h
    refine m_ci (m_rV (As := [.int (-6 : Int32)]) (rest := []) X w hl mi_X9_refuses ml_X9_109 0 sm_n0 sm_k0 rfl (c_X9_refuses l D cy ad A Kc C0 N z V28 (-6 : Int32) r59 V61 q60) ⟨⟨rfl, rfl, Nat.le_of_ble_eq_true rfl, Nat.le_of_ble_eq_true rfl⟩, Nat.le_of_ble_eq_true rfl, Nat.le_of_ble_eq_true rfl⟩ rfl rfl (Nat.le_of_ble_eq_true rfl) dX9_row_17) w (fun H locs w => ?_)
    obtain ⟨rfl, rfl⟩ := reti h
    exact m_ri X w hr hlocks dX9_row_20
def f_X9_must (N : Nat) (V : Vt) (a1 : Int32) : Option Vt := ob (f_X9_takes0 N V a1) (fun r7 V9 => if r7 = 0 then obv (f_X9_faults N V9) (fun V13 => some V13) else some V9)
set_option maxHeartbeats 4000000 in
set_option maxRecDepth 100000 in
theorem c_X9_must (l : Launch) (D : va_G) (cy : Nat → ClassId) (ad : Nat → Nat) (A : Nat → Prop) (Kc : State → Prop) (C0 : Cx ad A Kc) (N : Nat) (z : Nat) (V : Vt) (a1 : Int32) (V' : Vt) (h : f_X9_must N V a1 = some V') : Met l yX9_must (mw yX9_must cX9_must 2 none) { frames := 2, cells := 0, slots := 0, locals := 42 } (PreM D cy ad Kc (SM z) V [.ref (ad 0), .int a1]) (QV D cy ad A (SM z) V') 0 0 A := by
  refine ct_go C0 (own := RX9) rfl (by decide) rfl ?_
  intro p e s m below meth c ls H locs X hr hlocks hnm hl w
  have hx := X.1.1
  have hb := X.1.2.1
  have hown := X.2.1
  have hts := X.2.2.1
  have hl : lv_has ls 2 [(0, .ref (ad 0)), (1, .int a1)] := hl
  rw [f_X9_must] at h
  refine lv_aload_n hx hb dX9_must_0 rfl (lv_at hl 0 rfl) ?_
  refine lv_iload_n hx hb dX9_must_1 rfl (lv_at hl 1 rfl) ?_
  obtain ⟨r7, V9, q8, h⟩ := obi h
  refine m_ci (m_rV (As := [.int a1]) (rest := []) X w hl mi_X9_takes0 ml_X9_181 0 sm_n0 sm_k0 rfl (c_X9_takes0 l D cy ad A Kc C0 N z V a1 r7 V9 q8) ⟨⟨rfl, rfl, Nat.le_of_ble_eq_true rfl, Nat.le_of_ble_eq_true rfl⟩, Nat.le_of_ble_eq_true rfl, Nat.le_of_ble_eq_true rfl⟩ rfl rfl (Nat.le_of_ble_eq_true rfl) dX9_must_2) w (fun H locs w => ?_)
  refine lv_if_ne (tgt := 12) hx hb dX9_must_5 (by decide) (fun c10 => ?_) (fun c10 => ?_)
  · replace h := ifF h c10
    obtain rfl := Option.some.inj h
    exact m_rv X w hr hlocks dX9_must_12
  · replace h := ifT h c10
    refine lv_aload_n hx hb dX9_must_8 rfl (lv_at hl 0 rfl) ?_
    obtain ⟨V13, q12, h⟩ := obvi h
    refine m_cv (m_rV (As := []) (rest := []) X w hl mi_X9_faults ml_X9_184 0 sm_n0 sm_k0 rfl (c_X9_faults l D cy ad A Kc C0 N z V9  V13 q12) ⟨⟨rfl, rfl, Nat.le_of_ble_eq_true rfl, Nat.le_of_ble_eq_true rfl⟩, Nat.le_of_ble_eq_true rfl, Nat.le_of_ble_eq_true rfl⟩ rfl rfl (Nat.le_of_ble_eq_true rfl) dX9_must_9) w (fun H locs w => ?_)
    obtain rfl := Option.some.inj h
    exact m_rv X w hr hlocks dX9_must_12
def f_X9_leaf_13 (N : Nat) (V : Vt) : Option Vt := bd (sF V 0 20 ((V.1 0 20) + (1 : Int32))) (fun V9 => ob1 (f_X9_fine N V9) (fun r10 => if r10 = 0 then some V9 else bd (sF V9 0 19 ((V9.1 0 19) + (1 : Int32))) (fun V13 => some V13)))
def f_X9_leaf (N : Nat) (V : Vt) : Option Vt := if (V.1 0 20) = (50 : Int32) then obv (f_X9_faults N V) (fun V16 => f_X9_leaf_13 N V16 ) else f_X9_leaf_13 N V 
set_option maxHeartbeats 4000000 in
set_option maxRecDepth 100000 in
theorem c_X9_leaf (l : Launch) (D : va_G) (cy : Nat → ClassId) (ad : Nat → Nat) (A : Nat → Prop) (Kc : State → Prop) (C0 : Cx ad A Kc) (N : Nat) (z : Nat) (V : Vt) (V' : Vt) (h : f_X9_leaf N V = some V') : Met l yX9_leaf (mw yX9_leaf cX9_leaf 1 none) { frames := 2, cells := 0, slots := 0, locals := 40 } (PreM D cy ad Kc (SM z) V [.ref (ad 0)]) (QV D cy ad A (SM z) V') 0 0 A := by
  refine ct_go C0 (own := RX9) rfl (by decide) rfl ?_
  intro p e s m below meth c ls H locs X hr hlocks hnm hl w
  have hx := X.1.1
  have hb := X.1.2.1
  have hown := X.2.1
  have hts := X.2.2.1
  have hl : lv_has ls 1 [(0, .ref (ad 0))] := hl
  obtain ⟨G, hG⟩ : ∃ G : Nat → Vt → List (Nat × Value) → List Value → Prop, G = fun pc V lv st => ∀ (H : Heap) (locs : List Loc) (ls : Array Slot), Wd D cy ad A s.heap (SM z) V H locs → lv_has ls 1 lv → W p l e { frames := 2, cells := 0, slots := 0, locals := 40 } s m ([.ref (ad 0)] : List Value).toArray below meth c H locs 0 0 (MQ below (QV D cy ad A (SM z) V') ([.ref (ad 0)] : List Value).toArray s 0 0 A) (F0 m pc ls st) := ⟨_, rfl⟩
  have B13 : ∀ (V : Vt), f_X9_leaf_13 N V  = some V' → G 13 V [(0, .ref (ad 0))] [] := by
    intro V  h
    rw [hG]
    intro H locs ls w hl
    rw [f_X9_leaf_13] at h
    refine lv_aload_n hx hb dX9_leaf_13 rfl (lv_at hl 0 rfl) ?_
    refine lv_dup hx hb dX9_leaf_14 rfl ?_
    refine m_get X w 0 sm_n0 sm_k0 ci9 20 (by decide) (fvI sm_k0 rfl) rfl fl_X9_187 dX9_leaf_15 ?_
    refine lv_iconst (v := 1) hx hb dX9_leaf_18 (by decide) ?_
    refine lv_iadd hx hb dX9_leaf_19 ?_
    refine m_put X w 0 sm_n0 sm_k0 ci9 20 (by decide) rfl rfl rfl rfl rfl fl_X9_187 dX9_leaf_20 (fun V9 H locs eV9 w => ?_)
    replace h := bdi h _ eV9
    refine lv_aload_n hx hb dX9_leaf_23 rfl (lv_at hl 0 rfl) ?_
    obtain ⟨r10, q11, h⟩ := ob1i h
    refine m_ci (m_rV (As := []) (rest := []) X w hl mi_X9_fine ml_X9_174 0 sm_n0 sm_k0 rfl (c_X9_fine l D cy ad A Kc C0 N z V9  r10 q11) ⟨⟨rfl, rfl, Nat.le_of_ble_eq_true rfl, Nat.le_of_ble_eq_true rfl⟩, Nat.le_of_ble_eq_true rfl, Nat.le_of_ble_eq_true rfl⟩ rfl rfl (Nat.le_of_ble_eq_true rfl) dX9_leaf_24) w (fun H locs w => ?_)
    refine lv_if_eq (tgt := 40) hx hb dX9_leaf_27 (by decide) (fun c12 => ?_) (fun c12 => ?_)
    · replace h := ifT h c12
      obtain rfl := Option.some.inj h
      exact m_rv X w hr hlocks dX9_leaf_40
    · replace h := ifF h c12
      refine lv_aload_n hx hb dX9_leaf_30 rfl (lv_at hl 0 rfl) ?_
      refine lv_dup hx hb dX9_leaf_31 rfl ?_
      refine m_get X w 0 sm_n0 sm_k0 ci9 19 (by decide) (fvI sm_k0 rfl) rfl fl_X9_178 dX9_leaf_32 ?_
      refine lv_iconst (v := 1) hx hb dX9_leaf_35 (by decide) ?_
      refine lv_iadd hx hb dX9_leaf_36 ?_
      refine m_put X w 0 sm_n0 sm_k0 ci9 19 (by decide) rfl rfl rfl rfl rfl fl_X9_178 dX9_leaf_37 (fun V13 H locs eV13 w => ?_)
      replace h := bdi h _ eV13
      obtain rfl := Option.some.inj h
      exact m_rv X w hr hlocks dX9_leaf_40
  rw [f_X9_leaf] at h
  refine lv_aload_n hx hb dX9_leaf_0 rfl (lv_at hl 0 rfl) ?_
  refine m_get X w 0 sm_n0 sm_k0 ci9 20 (by decide) (fvI sm_k0 rfl) rfl fl_X9_187 dX9_leaf_1 ?_
  refine lv_bipush (v := 50) hx hb dX9_leaf_4 (by decide) ?_
  refine lv_icmp_ne (tgt := 13) hx hb dX9_leaf_6 (by decide) (fun c8 => ?_) (fun c8 => ?_)
  · replace h := ifF h c8
    have g := B13 V  h
    rw [hG] at g
    exact g H locs ls w (lv_sub hl [0] rfl)
  · replace h := ifT h c8
    refine lv_aload_n hx hb dX9_leaf_9 rfl (lv_at hl 0 rfl) ?_
    obtain ⟨V16, q15, h⟩ := obvi h
    refine m_cv (m_rV (As := []) (rest := []) X w hl mi_X9_faults ml_X9_184 0 sm_n0 sm_k0 rfl (c_X9_faults l D cy ad A Kc C0 N z V  V16 q15) ⟨⟨rfl, rfl, Nat.le_of_ble_eq_true rfl, Nat.le_of_ble_eq_true rfl⟩, Nat.le_of_ble_eq_true rfl, Nat.le_of_ble_eq_true rfl⟩ rfl rfl (Nat.le_of_ble_eq_true rfl) dX9_leaf_10) w (fun H locs w => ?_)
    have g := B13 V16  h
    rw [hG] at g
    exact g H locs ls w (lv_sub hl [0] rfl)
def f_X9_mustNumber_42 (N : Nat) (V : Vt) : Option Vt := ob1 (f_X9_fine N V) (fun r16 => if r16 = 0 then some V else bd (sF V 0 19 ((V.1 0 19) + (1 : Int32))) (fun V19 => some V19))
def f_X9_mustNumber_38 (N : Nat) (V : Vt) : Option Vt := obv (f_X9_faults N V) (fun V24 => f_X9_mustNumber_42 N V24 )
def f_X9_mustNumber (N : Nat) (V : Vt) (a1 : Int32) (a2 : Int32) : Option Vt := ob1 (f_X9_fine N V) (fun r13 => if r13 = 0 then f_X9_mustNumber_42 N V  else ck (V.1 0 19) 401 (if (V.2.1 9 (V.1 0 19).toNatClampNeg) = (50 : Int32) then ck (V.1 0 19) 401 (ob1 (f_X9_lies N (V.2.1 10 (V.1 0 19).toNatClampNeg) a1 a2) (fun r26 => if r26 = 0 then f_X9_mustNumber_38 N V  else f_X9_mustNumber_42 N V )) else f_X9_mustNumber_38 N V ))
set_option maxHeartbeats 4000000 in
set_option maxRecDepth 100000 in
theorem c_X9_mustNumber (l : Launch) (D : va_G) (cy : Nat → ClassId) (ad : Nat → Nat) (A : Nat → Prop) (Kc : State → Prop) (C0 : Cx ad A Kc) (N : Nat) (z : Nat) (V : Vt) (a1 : Int32) (a2 : Int32) (V' : Vt) (h : f_X9_mustNumber N V a1 a2 = some V') : Met l yX9_mustNumber (mw yX9_mustNumber cX9_mustNumber 3 none) { frames := 2, cells := 0, slots := 0, locals := 40 } (PreM D cy ad Kc (SM z) V [.ref (ad 0), .int a1, .int a2]) (QV D cy ad A (SM z) V') 0 0 A := by
  refine ct_go C0 (own := RX9) rfl (by decide) rfl ?_
  intro p e s m below meth c ls H locs X hr hlocks hnm hl w
  have hx := X.1.1
  have hb := X.1.2.1
  have hown := X.2.1
  have hts := X.2.2.1
  have hl : lv_has ls 3 [(0, .ref (ad 0)), (1, .int a1), (2, .int a2)] := hl
  obtain ⟨G, hG⟩ : ∃ G : Nat → Vt → List (Nat × Value) → List Value → Prop, G = fun pc V lv st => ∀ (H : Heap) (locs : List Loc) (ls : Array Slot), Wd D cy ad A s.heap (SM z) V H locs → lv_has ls 3 lv → W p l e { frames := 2, cells := 0, slots := 0, locals := 40 } s m ([.ref (ad 0), .int a1, .int a2] : List Value).toArray below meth c H locs 0 0 (MQ below (QV D cy ad A (SM z) V') ([.ref (ad 0), .int a1, .int a2] : List Value).toArray s 0 0 A) (F0 m pc ls st) := ⟨_, rfl⟩
  have B42 : ∀ (V : Vt), f_X9_mustNumber_42 N V  = some V' → G 42 V [(0, .ref (ad 0))] [] := by
    intro V  h
    rw [hG]
    intro H locs ls w hl
    rw [f_X9_mustNumber_42] at h
    refine lv_aload_n hx hb dX9_mustNumber_42 rfl (lv_at hl 0 rfl) ?_
    obtain ⟨r16, q17, h⟩ := ob1i h
    refine m_ci (m_rV (As := []) (rest := []) X w hl mi_X9_fine ml_X9_174 0 sm_n0 sm_k0 rfl (c_X9_fine l D cy ad A Kc C0 N z V  r16 q17) ⟨⟨rfl, rfl, Nat.le_of_ble_eq_true rfl, Nat.le_of_ble_eq_true rfl⟩, Nat.le_of_ble_eq_true rfl, Nat.le_of_ble_eq_true rfl⟩ rfl rfl (Nat.le_of_ble_eq_true rfl) dX9_mustNumber_43) w (fun H locs w => ?_)
    refine lv_if_eq (tgt := 59) hx hb dX9_mustNumber_46 (by decide) (fun c18 => ?_) (fun c18 => ?_)
    · replace h := ifT h c18
      obtain rfl := Option.some.inj h
      exact m_rv X w hr hlocks dX9_mustNumber_59
    · replace h := ifF h c18
      refine lv_aload_n hx hb dX9_mustNumber_49 rfl (lv_at hl 0 rfl) ?_
      refine lv_dup hx hb dX9_mustNumber_50 rfl ?_
      refine m_get X w 0 sm_n0 sm_k0 ci9 19 (by decide) (fvI sm_k0 rfl) rfl fl_X9_178 dX9_mustNumber_51 ?_
      refine lv_iconst (v := 1) hx hb dX9_mustNumber_54 (by decide) ?_
      refine lv_iadd hx hb dX9_mustNumber_55 ?_
      refine m_put X w 0 sm_n0 sm_k0 ci9 19 (by decide) rfl rfl rfl rfl rfl fl_X9_178 dX9_mustNumber_56 (fun V19 H locs eV19 w => ?_)
      replace h := bdi h _ eV19
      obtain rfl := Option.some.inj h
      exact m_rv X w hr hlocks dX9_mustNumber_59
  have B38 : ∀ (V : Vt), f_X9_mustNumber_38 N V  = some V' → G 38 V [(0, .ref (ad 0))] [] := by
    intro V  h
    rw [hG]
    intro H locs ls w hl
    rw [f_X9_mustNumber_38] at h
    refine lv_aload_n hx hb dX9_mustNumber_38 rfl (lv_at hl 0 rfl) ?_
    obtain ⟨V24, q23, h⟩ := obvi h
    refine m_cv (m_rV (As := []) (rest := []) X w hl mi_X9_faults ml_X9_184 0 sm_n0 sm_k0 rfl (c_X9_faults l D cy ad A Kc C0 N z V  V24 q23) ⟨⟨rfl, rfl, Nat.le_of_ble_eq_true rfl, Nat.le_of_ble_eq_true rfl⟩, Nat.le_of_ble_eq_true rfl, Nat.le_of_ble_eq_true rfl⟩ rfl rfl (Nat.le_of_ble_eq_true rfl) dX9_mustNumber_39) w (fun H locs w => ?_)
    have g := B42 V24  h
    rw [hG] at g
    exact g H locs ls w (lv_sub hl [0] rfl)
  rw [f_X9_mustNumber] at h
  refine lv_aload_n hx hb dX9_mustNumber_0 rfl (lv_at hl 0 rfl) ?_
  obtain ⟨r13, q14, h⟩ := ob1i h
  refine m_ci (m_rV (As := []) (rest := []) X w hl mi_X9_fine ml_X9_174 0 sm_n0 sm_k0 rfl (c_X9_fine l D cy ad A Kc C0 N z V  r13 q14) ⟨⟨rfl, rfl, Nat.le_of_ble_eq_true rfl, Nat.le_of_ble_eq_true rfl⟩, Nat.le_of_ble_eq_true rfl, Nat.le_of_ble_eq_true rfl⟩ rfl rfl (Nat.le_of_ble_eq_true rfl) dX9_mustNumber_1) w (fun H locs w => ?_)
  refine lv_if_eq (tgt := 42) hx hb dX9_mustNumber_4 (by decide) (fun c15 => ?_) (fun c15 => ?_)
  · replace h := ifT h c15
    have g := B42 V  h
    rw [hG] at g
    exact g H locs ls w (lv_sub hl [0] rfl)
  · replace h := ifF h c15
    refine lv_aload_n hx hb dX9_mustNumber_7 rfl (lv_at hl 0 rfl) ?_
    refine m_get X w 0 sm_n0 sm_k0 ci9 15 (by decide) (fvR sm_k0 rfl sm_p15) rfl fl_X9_54 dX9_mustNumber_8 ?_
    refine lv_aload_n hx hb dX9_mustNumber_11 rfl (lv_at hl 0 rfl) ?_
    refine m_get X w 0 sm_n0 sm_k0 ci9 19 (by decide) (fvI sm_k0 rfl) rfl fl_X9_178 dX9_mustNumber_12 ?_
    obtain ⟨g20, h⟩ := cki h
    refine m_iald X w 9 sm_n9 sm_k9 sm_z9 g20 dX9_mustNumber_15 ?_
    refine lv_bipush (v := 50) hx hb dX9_mustNumber_16 (by decide) ?_
    refine lv_icmp_ne (tgt := 38) hx hb dX9_mustNumber_18 (by decide) (fun c21 => ?_) (fun c21 => ?_)
    · replace h := ifF h c21
      have g := B38 V  h
      rw [hG] at g
      exact g H locs ls w (lv_sub hl [0] rfl)
    · replace h := ifT h c21
      refine lv_aload_n hx hb dX9_mustNumber_21 rfl (lv_at hl 0 rfl) ?_
      refine m_get X w 0 sm_n0 sm_k0 ci9 16 (by decide) (fvR sm_k0 rfl sm_p16) rfl fl_X9_57 dX9_mustNumber_22 ?_
      refine lv_aload_n hx hb dX9_mustNumber_25 rfl (lv_at hl 0 rfl) ?_
      refine m_get X w 0 sm_n0 sm_k0 ci9 19 (by decide) (fvI sm_k0 rfl) rfl fl_X9_178 dX9_mustNumber_26 ?_
      obtain ⟨g25, h⟩ := cki h
      refine m_iald X w 10 sm_n10 sm_k10 sm_z10 g25 dX9_mustNumber_29 ?_
      refine lv_iload_n hx hb dX9_mustNumber_30 rfl (lv_at hl 1 rfl) ?_
      refine lv_iload_n hx hb dX9_mustNumber_31 rfl (lv_at hl 2 rfl) ?_
      obtain ⟨r26, q27, h⟩ := ob1i h
      refine m_ci (m_rS (As := [.int (V.2.1 10 (V.1 0 19).toNatClampNeg), .int a1, .int a2]) (rest := []) X w hl mi_X9_lies ml_X9_18 (c_X9_lies l D cy ad A Kc C0 N z V (V.2.1 10 (V.1 0 19).toNatClampNeg) a1 a2 r26 q27) ⟨⟨rfl, rfl, Nat.le_of_ble_eq_true rfl, Nat.le_of_ble_eq_true rfl⟩, Nat.le_of_ble_eq_true rfl, Nat.le_of_ble_eq_true rfl⟩ rfl rfl (Nat.le_of_ble_eq_true rfl) dX9_mustNumber_32) w (fun H locs w => ?_)
      refine lv_if_ne (tgt := 42) hx hb dX9_mustNumber_35 (by decide) (fun c28 => ?_) (fun c28 => ?_)
      · replace h := ifF h c28
        have g := B42 V  h
        rw [hG] at g
        exact g H locs ls w (lv_sub hl [0] rfl)
      · replace h := ifT h c28
        have g := B38 V  h
        rw [hG] at g
        exact g H locs ls w (lv_sub hl [0] rfl)
def f_X9_orderValue (N : Nat) (V : Vt) (a1 : Int32) (a2 : Int32) : Option Int32 := if a1 = (15 : Int32) then ck ((0 : Int32) + a2) 5715 (some (V.2.1 2 ((0 : Int32) + a2).toNatClampNeg)) else if a1 = (16 : Int32) then ob1 (f_X9_offBy N V a2) (fun r13 => some r13) else if a1 = (17 : Int32) then ob1 (f_X9_offBy N V ((5 : Int32) + a2)) (fun r16 => some r16) else if a1 = (18 : Int32) then ck (31 : Int32) 5715 (some (V.2.1 2 (31 : Int32).toNatClampNeg)) else if a1 = (19 : Int32) then some (V.1 0 27) else if a1 = (20 : Int32) then some (V.1 0 28) else if a1 = (21 : Int32) then ob1 (f_X9_isClerk N V a2) (fun r23 => if r23 = 0 then some (-1 : Int32) else ck ((25 : Int32) + a2) 5715 (some (V.2.1 2 ((25 : Int32) + a2).toNatClampNeg))) else some (V.1 0 28)
set_option maxHeartbeats 4000000 in
set_option maxRecDepth 100000 in
theorem c_X9_orderValue (l : Launch) (D : va_G) (cy : Nat → ClassId) (ad : Nat → Nat) (A : Nat → Prop) (Kc : State → Prop) (C0 : Cx ad A Kc) (N : Nat) (z : Nat) (V : Vt) (a1 : Int32) (a2 : Int32) (r : Int32) (h : f_X9_orderValue N V a1 a2 = some r) : Met l yX9_orderValue (mw yX9_orderValue cX9_orderValue 3 (some .int)) { frames := 2, cells := 0, slots := 0, locals := 43 } (PreM D cy ad Kc (SM z) V [.ref (ad 0), .int a1, .int a2]) (QI D cy ad A r (SM z) V) 0 0 A := by
  refine ct_go C0 (own := RX9) rfl (by decide) rfl ?_
  intro p e s m below meth c ls H locs X hr hlocks hnm hl w
  have hx := X.1.1
  have hb := X.1.2.1
  have hown := X.2.1
  have hts := X.2.2.1
  have hl : lv_has ls 3 [(0, .ref (ad 0)), (1, .int a1), (2, .int a2)] := hl
  rw [f_X9_orderValue] at h
  refine lv_iload_n hx hb dX9_orderValue_0 rfl (lv_at hl 1 rfl) ?_
  rcases Decidable.em (a1 = (15 : Int32)) with c10 | c10
  · replace h := ifT h c10
    refine lv_tableIn (tgt := 44) hx hb dX9_orderValue_1 (by rw [c10]; decide) (by rw [c10]; decide) (by rw [c10]; rfl) (by decide) ?_
    refine lv_aload_n hx hb dX9_orderValue_44 rfl (lv_at hl 0 rfl) ?_
    refine m_get X w 0 sm_n0 sm_k0 ci9 2 (by decide) (fvR sm_k0 rfl sm_p2) rfl fl_X9_28 dX9_orderValue_45 ?_
    refine lv_iconst (v := 0) hx hb dX9_orderValue_48 (by decide) ?_
    refine lv_iload_n hx hb dX9_orderValue_49 rfl (lv_at hl 2 rfl) ?_
    refine lv_iadd hx hb dX9_orderValue_50 ?_
    obtain ⟨g11, h⟩ := cki h
    refine m_iald X w 2 sm_n2 sm_k2 sm_z2 g11 dX9_orderValue_51 ?_
    obtain rfl := Option.some.inj h
    exact m_ri X w hr hlocks dX9_orderValue_52
  · replace h := ifF h c10
    rcases Decidable.em (a1 = (16 : Int32)) with c12 | c12
    · replace h := ifT h c12
      refine lv_tableIn (tgt := 53) hx hb dX9_orderValue_1 (by rw [c12]; decide) (by rw [c12]; decide) (by rw [c12]; rfl) (by decide) ?_
      refine lv_aload_n hx hb dX9_orderValue_53 rfl (lv_at hl 0 rfl) ?_
      refine lv_iload_n hx hb dX9_orderValue_54 rfl (lv_at hl 2 rfl) ?_
      obtain ⟨r13, q14, h⟩ := ob1i h
      refine m_ci (m_rV (As := [.int a2]) (rest := []) X w hl mi_X9_offBy ml_X9_132 0 sm_n0 sm_k0 rfl (c_X9_offBy l D cy ad A Kc C0 N z V a2 r13 q14) ⟨⟨rfl, rfl, Nat.le_of_ble_eq_true rfl, Nat.le_of_ble_eq_true rfl⟩, Nat.le_of_ble_eq_true rfl, Nat.le_of_ble_eq_true rfl⟩ rfl rfl (Nat.le_of_ble_eq_true rfl) dX9_orderValue_55) w (fun H locs w => ?_)
      obtain rfl := Option.some.inj h
      exact m_ri X w hr hlocks dX9_orderValue_58
    · replace h := ifF h c12
      rcases Decidable.em (a1 = (17 : Int32)) with c15 | c15
      · replace h := ifT h c15
        refine lv_tableIn (tgt := 59) hx hb dX9_orderValue_1 (by rw [c15]; decide) (by rw [c15]; decide) (by rw [c15]; rfl) (by decide) ?_
        refine lv_aload_n hx hb dX9_orderValue_59 rfl (lv_at hl 0 rfl) ?_
        refine lv_iconst (v := 5) hx hb dX9_orderValue_60 (by decide) ?_
        refine lv_iload_n hx hb dX9_orderValue_61 rfl (lv_at hl 2 rfl) ?_
        refine lv_iadd hx hb dX9_orderValue_62 ?_
        obtain ⟨r16, q17, h⟩ := ob1i h
        refine m_ci (m_rV (As := [.int ((5 : Int32) + a2)]) (rest := []) X w hl mi_X9_offBy ml_X9_132 0 sm_n0 sm_k0 rfl (c_X9_offBy l D cy ad A Kc C0 N z V ((5 : Int32) + a2) r16 q17) ⟨⟨rfl, rfl, Nat.le_of_ble_eq_true rfl, Nat.le_of_ble_eq_true rfl⟩, Nat.le_of_ble_eq_true rfl, Nat.le_of_ble_eq_true rfl⟩ rfl rfl (Nat.le_of_ble_eq_true rfl) dX9_orderValue_63) w (fun H locs w => ?_)
        obtain rfl := Option.some.inj h
        exact m_ri X w hr hlocks dX9_orderValue_66
      · replace h := ifF h c15
        rcases Decidable.em (a1 = (18 : Int32)) with c18 | c18
        · replace h := ifT h c18
          refine lv_tableIn (tgt := 89) hx hb dX9_orderValue_1 (by rw [c18]; decide) (by rw [c18]; decide) (by rw [c18]; rfl) (by decide) ?_
          refine lv_aload_n hx hb dX9_orderValue_89 rfl (lv_at hl 0 rfl) ?_
          refine m_get X w 0 sm_n0 sm_k0 ci9 2 (by decide) (fvR sm_k0 rfl sm_p2) rfl fl_X9_28 dX9_orderValue_90 ?_
          refine lv_bipush (v := 31) hx hb dX9_orderValue_93 (by decide) ?_
          obtain ⟨g19, h⟩ := cki h
          refine m_iald X w 2 sm_n2 sm_k2 sm_z2 g19 dX9_orderValue_95 ?_
          obtain rfl := Option.some.inj h
          exact m_ri X w hr hlocks dX9_orderValue_96
        · replace h := ifF h c18
          rcases Decidable.em (a1 = (19 : Int32)) with c20 | c20
          · replace h := ifT h c20
            refine lv_tableIn (tgt := 97) hx hb dX9_orderValue_1 (by rw [c20]; decide) (by rw [c20]; decide) (by rw [c20]; rfl) (by decide) ?_
            refine lv_aload_n hx hb dX9_orderValue_97 rfl (lv_at hl 0 rfl) ?_
            refine m_get X w 0 sm_n0 sm_k0 ci9 27 (by decide) (fvI sm_k0 rfl) rfl fl_X9_294 dX9_orderValue_98 ?_
            obtain rfl := Option.some.inj h
            exact m_ri X w hr hlocks dX9_orderValue_101
          · replace h := ifF h c20
            rcases Decidable.em (a1 = (20 : Int32)) with c21 | c21
            · replace h := ifT h c21
              refine lv_tableIn (tgt := 102) hx hb dX9_orderValue_1 (by rw [c21]; decide) (by rw [c21]; decide) (by rw [c21]; rfl) (by decide) ?_
              refine lv_aload_n hx hb dX9_orderValue_102 rfl (lv_at hl 0 rfl) ?_
              refine m_get X w 0 sm_n0 sm_k0 ci9 28 (by decide) (fvI sm_k0 rfl) rfl fl_X9_297 dX9_orderValue_103 ?_
              obtain rfl := Option.some.inj h
              exact m_ri X w hr hlocks dX9_orderValue_106
            · replace h := ifF h c21
              rcases Decidable.em (a1 = (21 : Int32)) with c22 | c22
              · replace h := ifT h c22
                refine lv_tableIn (tgt := 67) hx hb dX9_orderValue_1 (by rw [c22]; decide) (by rw [c22]; decide) (by rw [c22]; rfl) (by decide) ?_
                refine lv_aload_n hx hb dX9_orderValue_67 rfl (lv_at hl 0 rfl) ?_
                refine lv_iload_n hx hb dX9_orderValue_68 rfl (lv_at hl 2 rfl) ?_
                obtain ⟨r23, q24, h⟩ := ob1i h
                refine m_ci (m_rV (As := [.int a2]) (rest := []) X w hl mi_X9_isClerk ml_X9_136 0 sm_n0 sm_k0 rfl (c_X9_isClerk l D cy ad A Kc C0 N z V a2 r23 q24) ⟨⟨rfl, rfl, Nat.le_of_ble_eq_true rfl, Nat.le_of_ble_eq_true rfl⟩, Nat.le_of_ble_eq_true rfl, Nat.le_of_ble_eq_true rfl⟩ rfl rfl (Nat.le_of_ble_eq_true rfl) dX9_orderValue_69) w (fun H locs w => ?_)
                refine lv_if_eq (tgt := 87) hx hb dX9_orderValue_72 (by decide) (fun c25 => ?_) (fun c25 => ?_)
                · replace h := ifT h c25
                  refine lv_iconst (v := (-1)) hx hb dX9_orderValue_87 (by decide) ?_
                  obtain rfl := Option.some.inj h
                  exact m_ri X w hr hlocks dX9_orderValue_88
                · replace h := ifF h c25
                  refine lv_aload_n hx hb dX9_orderValue_75 rfl (lv_at hl 0 rfl) ?_
                  refine m_get X w 0 sm_n0 sm_k0 ci9 2 (by decide) (fvR sm_k0 rfl sm_p2) rfl fl_X9_28 dX9_orderValue_76 ?_
                  refine lv_bipush (v := 25) hx hb dX9_orderValue_79 (by decide) ?_
                  refine lv_iload_n hx hb dX9_orderValue_81 rfl (lv_at hl 2 rfl) ?_
                  refine lv_iadd hx hb dX9_orderValue_82 ?_
                  obtain ⟨g26, h⟩ := cki h
                  refine m_iald X w 2 sm_n2 sm_k2 sm_z2 g26 dX9_orderValue_83 ?_
                  refine lv_goto (tgt := 88) hx hb dX9_orderValue_84 (by decide) ?_
                  obtain rfl := Option.some.inj h
                  exact m_ri X w hr hlocks dX9_orderValue_88
              · replace h := ifF h c22
                refine lv_tableOut (tgt := 102) hx hb dX9_orderValue_1 (sw_out [(15 : Int32), (16 : Int32), (17 : Int32), (18 : Int32), (19 : Int32), (20 : Int32), (21 : Int32)] (by decide) (by intro q hq; simp only [List.mem_cons, List.not_mem_nil, or_false] at hq; rcases hq with rfl | rfl | rfl | rfl | rfl | rfl | rfl <;> assumption)) (by decide) ?_
                refine lv_aload_n hx hb dX9_orderValue_102 rfl (lv_at hl 0 rfl) ?_
                refine m_get X w 0 sm_n0 sm_k0 ci9 28 (by decide) (fvI sm_k0 rfl) rfl fl_X9_297 dX9_orderValue_103 ?_
                obtain rfl := Option.some.inj h
                exact m_ri X w hr hlocks dX9_orderValue_106
