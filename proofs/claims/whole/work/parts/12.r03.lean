def f_X9_orders_122 (N : Nat) : Nat → Vt → Int32 → Int32 → Int32 → Option (Int32 × Vt)
  | 0, _, _, _, _ => none
  | n + 1, V, v1, v3, v4 => if (528 : Int32) ≤ v4 then bd (sF V 0 31 v1) (fun V73 => bd (sF V73 0 40 v3) (fun V74 => ob (f_X9_refuses N V74 (-3 : Int32)) (fun r75 V77 => some (r75, V77)))) else ck v4 528 (ck v4 528 (bd (sA V 13 v4.toNatClampNeg (V.2.1 14 v4.toNatClampNeg)) (fun V80 => bd (v4 + (1 : Int32)) (fun x81 => (f_X9_orders_122 N n) V80 v1 v3 x81))))
def f_X9_orders_95 (N : Nat) : Nat → Vt → Int32 → Int32 → Int32 → Option (Int32 × Vt)
  | 0, _, _, _, _ => none
  | n + 1, V, v1, v2, v3 => if v2 ≤ (V.1 0 41) then ob (f_X9_good N V (V.1 0 27)) (fun r62 V64 => some (r62, V64)) else ob (f_X9_runs N V v2) (fun r65 V67 => if r65 = 0 then obv (f_X9_takesBack N V67 (1 : Int32)) (fun V71 => f_X9_orders_122 N N V71 v1 v3 (0 : Int32)) else bd (v3 + (1 : Int32)) (fun x82 => (f_X9_orders_95 N n) V67 v1 v2 x82))
def f_X9_orders_27 (N : Nat) : Nat → Vt → Int32 → Option (Int32 × Vt)
  | 0, _, _ => none
  | n + 1, V, v1 => if (528 : Int32) ≤ v1 then bd (V.1 0 31) (fun x52 => obv (f_X9_lays N V (6 : Int32)) (fun V55 => bd (sF V55 0 27 (0 : Int32)) (fun V56 => bd (sF V56 0 28 (-1 : Int32)) (fun V57 => bd (sF V57 0 41 (2400 : Int32)) (fun V58 => ck (114 : Int32) 5715 (bd ((V58.1 0 41) + (V58.2.1 2 (114 : Int32).toNatClampNeg)) (fun x60 => f_X9_orders_95 N N V58 x52 x60 (0 : Int32)))))))) else ck v1 528 (ck v1 528 (bd (sA V 14 v1.toNatClampNeg (V.2.1 13 v1.toNatClampNeg)) (fun V85 => bd (v1 + (1 : Int32)) (fun x86 => (f_X9_orders_27 N n) V85 x86))))
def f_X9_orders (N : Nat) (V : Vt) : Option (Int32 × Vt) := bd (sF V 0 40 (-1 : Int32)) (fun V43 => ob (f_X9_readsAs N V43 (1 : Int32)) (fun r44 V46 => if r44 = 0 then ob (f_X9_refuses N V46 (-6 : Int32)) (fun r87 V89 => some (r87, V89)) else obv (f_X9_laysAside N V46 (1 : Int32)) (fun V50 => f_X9_orders_27 N N V50 (0 : Int32))))
set_option maxHeartbeats 4000000 in
set_option maxRecDepth 100000 in
theorem c_X9_orders (l : Launch) (D : va_G) (cy : Nat → ClassId) (ad : Nat → Nat) (A : Nat → Prop) (Kc : State → Prop) (C0 : Cx ad A Kc) (N : Nat) (z : Nat) (V : Vt) (r : Int32) (V' : Vt) (h : f_X9_orders N V = some (r, V')) : Met l yX9_orders (mw yX9_orders cX9_orders 5 (some .int)) { frames := 91, cells := 0, slots := 0, locals := 5060 } (PreM D cy ad Kc (SM z) V [.ref (ad 0)]) (QI D cy ad A r (SM z) V') 0 0 A := by
  refine ct_go C0 (own := RX9) rfl (by decide) rfl ?_
  intro p e s m below meth c ls H locs X hr hlocks hnm hl w
  have hx := X.1.1
  have hb := X.1.2.1
  have hown := X.2.1
  have hts := X.2.2.1
  have hl : lv_has ls 5 [(0, .ref (ad 0))] := hl
  obtain ⟨G, hG⟩ : ∃ G : Nat → Vt → List (Nat × Value) → List Value → Prop, G = fun pc V lv st => ∀ (H : Heap) (locs : List Loc) (ls : Array Slot), Wd D cy ad A s.heap (SM z) V H locs → lv_has ls 5 lv → W p l e { frames := 91, cells := 0, slots := 0, locals := 5060 } s m ([.ref (ad 0)] : List Value).toArray below meth c H locs 0 0 (MQ below (QI D cy ad A r (SM z) V') ([.ref (ad 0)] : List Value).toArray s 0 0 A) (F0 m pc ls st) := ⟨_, rfl⟩
  have L122 : ∀ (n122 : Nat) (V : Vt) (v1 : Int32) (v3 : Int32) (v4 : Int32), f_X9_orders_122 N n122 V v1 v3 v4 = some (r, V') → G 122 V [(0, .ref (ad 0)), (1, .int v1), (3, .int v3), (4, .int v4)] [] := by
    intro n122
    induction n122 with
    | zero => intro V v1 v3 v4 h; rw [f_X9_orders_122] at h; cases h
    | succ n122 ih122 =>
      intro V v1 v3 v4 h
      rw [hG]
      intro H locs ls w hl
      rw [f_X9_orders_122] at h
      refine lv_iload hx hb dX9_orders_122 (lv_at hl 3 rfl) ?_
      refine lv_sipush (v := 528) hx hb dX9_orders_124 (by decide) ?_
      refine lv_icmp_ge (tgt := 150) hx hb dX9_orders_127 (by decide) (fun c72 => ?_) (fun c72 => ?_)
      · replace h := ifT h c72
        refine lv_aload_n hx hb dX9_orders_150 rfl (lv_at hl 0 rfl) ?_
        refine lv_iload_n hx hb dX9_orders_151 rfl (lv_at hl 1 rfl) ?_
        refine m_put X w 0 sm_n0 sm_k0 ci9 31 (by decide) rfl rfl rfl rfl rfl fl_X9_11 dX9_orders_152 (fun V73 H locs eV73 w => ?_)
        replace h := bdi h _ eV73
        refine lv_aload_n hx hb dX9_orders_155 rfl (lv_at hl 0 rfl) ?_
        refine lv_iload_n hx hb dX9_orders_156 rfl (lv_at hl 2 rfl) ?_
        refine m_put X w 0 sm_n0 sm_k0 ci9 40 (by decide) rfl rfl rfl rfl rfl fl_X9_97 dX9_orders_157 (fun V74 H locs eV74 w => ?_)
        replace h := bdi h _ eV74
        refine lv_aload_n hx hb dX9_orders_160 rfl (lv_at hl 0 rfl) ?_
        refine lv_bipush (v := (-3)) hx hb dX9_orders_161 (by decide) ?_
        obtain ⟨r75, V77, q76, h⟩ := obi h
        refine m_ci (m_rV (As := [.int (-3 : Int32)]) (rest := []) X w hl mi_X9_refuses ml_X9_109 0 sm_n0 sm_k0 rfl (c_X9_refuses l D cy ad A Kc C0 N z V74 (-3 : Int32) r75 V77 q76) ⟨⟨rfl, rfl, Nat.le_of_ble_eq_true rfl, Nat.le_of_ble_eq_true rfl⟩, Nat.le_of_ble_eq_true rfl, Nat.le_of_ble_eq_true rfl⟩ rfl rfl (Nat.le_of_ble_eq_true rfl) dX9_orders_163) w (fun H locs w => ?_)
        obtain ⟨rfl, rfl⟩ := reti h
        exact m_ri X w hr hlocks dX9_orders_166
      · replace h := ifF h c72
        refine lv_aload_n hx hb dX9_orders_130 rfl (lv_at hl 0 rfl) ?_
        refine m_get X w 0 sm_n0 sm_k0 ci9 29 (by decide) (fvR sm_k0 rfl sm_p29) rfl fl_X9_66 dX9_orders_131 ?_
        refine lv_iload hx hb dX9_orders_134 (lv_at hl 3 rfl) ?_
        refine lv_aload_n hx hb dX9_orders_136 rfl (lv_at hl 0 rfl) ?_
        refine m_get X w 0 sm_n0 sm_k0 ci9 30 (by decide) (fvR sm_k0 rfl sm_p30) rfl fl_X9_69 dX9_orders_137 ?_
        refine lv_iload hx hb dX9_orders_140 (lv_at hl 3 rfl) ?_
        obtain ⟨g78, h⟩ := cki h
        refine m_iald X w 14 sm_n14 sm_k14 sm_z14 g78 dX9_orders_142 ?_
        obtain ⟨g79, h⟩ := cki h
        refine m_iast X w 13 sm_n13 sm_k13 sm_z13 g79 dX9_orders_143 (fun V80 H locs eV80 w => ?_)
        replace h := bdi h _ eV80
        obtain ⟨x81, ex81⟩ : ∃ y : Int32, y = v4 + (1 : Int32) := ⟨_, rfl⟩
        replace h := bdi h _ ex81
        refine lv_iinc (v := x81) (lv' := [(4, .int x81), (0, .ref (ad 0)), (1, .int v1), (3, .int v3)]) hx hb dX9_orders_144 hl (k := 3) rfl (by rw [ex81]; rfl) (by decide) rfl (fun ls hl => ?_)
        refine lv_goto (tgt := 122) hx hb dX9_orders_147 (by decide) ?_
        have g := ih122 V80 v1 v3 x81 h
        rw [hG] at g
        exact g H locs ls w (lv_sub hl [1, 2, 3, 0] rfl)
  have L95 : ∀ (n95 : Nat) (V : Vt) (v1 : Int32) (v2 : Int32) (v3 : Int32), f_X9_orders_95 N n95 V v1 v2 v3 = some (r, V') → G 95 V [(0, .ref (ad 0)), (1, .int v1), (2, .int v2), (3, .int v3)] [] := by
    intro n95
    induction n95 with
    | zero => intro V v1 v2 v3 h; rw [f_X9_orders_95] at h; cases h
    | succ n95 ih95 =>
      intro V v1 v2 v3 h
      rw [hG]
      intro H locs ls w hl
      rw [f_X9_orders_95] at h
      refine lv_aload_n hx hb dX9_orders_95 rfl (lv_at hl 0 rfl) ?_
      refine m_get X w 0 sm_n0 sm_k0 ci9 41 (by decide) (fvI sm_k0 rfl) rfl fl_X9_421 dX9_orders_96 ?_
      refine lv_iload_n hx hb dX9_orders_99 rfl (lv_at hl 2 rfl) ?_
      refine lv_icmp_ge (tgt := 173) hx hb dX9_orders_100 (by decide) (fun c61 => ?_) (fun c61 => ?_)
      · replace h := ifT h c61
        refine lv_aload_n hx hb dX9_orders_173 rfl (lv_at hl 0 rfl) ?_
        refine lv_aload_n hx hb dX9_orders_174 rfl (lv_at hl 0 rfl) ?_
        refine m_get X w 0 sm_n0 sm_k0 ci9 27 (by decide) (fvI sm_k0 rfl) rfl fl_X9_294 dX9_orders_175 ?_
        obtain ⟨r62, V64, q63, h⟩ := obi h
        refine m_ci (m_rV (As := [.int (V.1 0 27)]) (rest := []) X w hl mi_X9_good ml_X9_14 0 sm_n0 sm_k0 rfl (c_X9_good l D cy ad A Kc C0 N z V (V.1 0 27) r62 V64 q63) ⟨⟨rfl, rfl, Nat.le_of_ble_eq_true rfl, Nat.le_of_ble_eq_true rfl⟩, Nat.le_of_ble_eq_true rfl, Nat.le_of_ble_eq_true rfl⟩ rfl rfl (Nat.le_of_ble_eq_true rfl) dX9_orders_178) w (fun H locs w => ?_)
        obtain ⟨rfl, rfl⟩ := reti h
        exact m_ri X w hr hlocks dX9_orders_181
      · replace h := ifF h c61
        refine lv_aload_n hx hb dX9_orders_103 rfl (lv_at hl 0 rfl) ?_
        refine lv_iload_n hx hb dX9_orders_104 rfl (lv_at hl 2 rfl) ?_
        obtain ⟨r65, V67, q66, h⟩ := obi h
        refine m_ci (m_rV (As := [.int v2]) (rest := []) X w hl mi_X9_runs ml_X9_424 0 sm_n0 sm_k0 rfl (c_X9_runs l D cy ad A Kc C0 N z V v2 r65 V67 q66) ⟨⟨rfl, rfl, Nat.le_of_ble_eq_true rfl, Nat.le_of_ble_eq_true rfl⟩, Nat.le_of_ble_eq_true rfl, Nat.le_of_ble_eq_true rfl⟩ rfl rfl (Nat.le_of_ble_eq_true rfl) dX9_orders_105) w (fun H locs w => ?_)
        refine lv_if_eq (tgt := 114) hx hb dX9_orders_108 (by decide) (fun c68 => ?_) (fun c68 => ?_)
        · replace h := ifT h c68
          refine lv_aload_n hx hb dX9_orders_114 rfl (lv_at hl 0 rfl) ?_
          refine lv_iconst (v := 1) hx hb dX9_orders_115 (by decide) ?_
          obtain ⟨V71, q70, h⟩ := obvi h
          refine m_cv (m_rV (As := [.int (1 : Int32)]) (rest := []) X w hl mi_X9_takesBack ml_X9_427 0 sm_n0 sm_k0 rfl (c_X9_takesBack l D cy ad A Kc C0 N z V67 (1 : Int32) V71 q70) ⟨⟨rfl, rfl, Nat.le_of_ble_eq_true rfl, Nat.le_of_ble_eq_true rfl⟩, Nat.le_of_ble_eq_true rfl, Nat.le_of_ble_eq_true rfl⟩ rfl rfl (Nat.le_of_ble_eq_true rfl) dX9_orders_116) w (fun H locs w => ?_)
          refine lv_iconst (v := 0) hx hb dX9_orders_119 (by decide) ?_
          refine lv_istore (lv' := [(4, .int (0 : Int32)), (0, .ref (ad 0)), (1, .int v1), (2, .int v2), (3, .int v3)]) hx hb dX9_orders_120 hl (by decide) rfl (fun ls hl => ?_)
          have g := L122 N V71 v1 v3 (0 : Int32) h
          rw [hG] at g
          exact g H locs ls w (lv_sub hl [1, 2, 4, 0] rfl)
        · replace h := ifF h c68
          refine lv_goto (tgt := 167) hx hb dX9_orders_111 (by decide) ?_
          obtain ⟨x82, ex82⟩ : ∃ y : Int32, y = v3 + (1 : Int32) := ⟨_, rfl⟩
          replace h := bdi h _ ex82
          refine lv_iinc (v := x82) (lv' := [(3, .int x82), (0, .ref (ad 0)), (1, .int v1), (2, .int v2)]) hx hb dX9_orders_167 hl (k := 3) rfl (by rw [ex82]; rfl) (by decide) rfl (fun ls hl => ?_)
          refine lv_goto (tgt := 95) hx hb dX9_orders_170 (by decide) ?_
          have g := ih95 V67 v1 v2 x82 h
          rw [hG] at g
          exact g H locs ls w (lv_sub hl [1, 2, 3, 0] rfl)
  have L27 : ∀ (n27 : Nat) (V : Vt) (v1 : Int32), f_X9_orders_27 N n27 V v1 = some (r, V') → G 27 V [(0, .ref (ad 0)), (1, .int v1)] [] := by
    intro n27
    induction n27 with
    | zero => intro V v1 h; rw [f_X9_orders_27] at h; cases h
    | succ n27 ih27 =>
      intro V v1 h
      rw [hG]
      intro H locs ls w hl
      rw [f_X9_orders_27] at h
      refine lv_iload_n hx hb dX9_orders_27 rfl (lv_at hl 1 rfl) ?_
      refine lv_sipush (v := 528) hx hb dX9_orders_28 (by decide) ?_
      refine lv_icmp_ge (tgt := 52) hx hb dX9_orders_31 (by decide) (fun c51 => ?_) (fun c51 => ?_)
      · replace h := ifT h c51
        refine lv_aload_n hx hb dX9_orders_52 rfl (lv_at hl 0 rfl) ?_
        refine m_get X w 0 sm_n0 sm_k0 ci9 31 (by decide) (fvI sm_k0 rfl) rfl fl_X9_11 dX9_orders_53 ?_
        refine lv_topi (fun x52 ex52 => ?_)
        replace h := bdi h _ ex52
        refine lv_istore_n (lv' := [(1, .int x52), (0, .ref (ad 0))]) hx hb dX9_orders_56 rfl hl (by decide) rfl (fun ls hl => ?_)
        refine lv_aload_n hx hb dX9_orders_57 rfl (lv_at hl 1 rfl) ?_
        refine lv_bipush (v := 6) hx hb dX9_orders_58 (by decide) ?_
        obtain ⟨V55, q54, h⟩ := obvi h
        refine m_cv (m_rV (As := [.int (6 : Int32)]) (rest := []) X w hl mi_X9_lays ml_X9_252 0 sm_n0 sm_k0 rfl (c_X9_lays l D cy ad A Kc C0 N z V (6 : Int32) V55 q54) ⟨⟨rfl, rfl, Nat.le_of_ble_eq_true rfl, Nat.le_of_ble_eq_true rfl⟩, Nat.le_of_ble_eq_true rfl, Nat.le_of_ble_eq_true rfl⟩ rfl rfl (Nat.le_of_ble_eq_true rfl) dX9_orders_60) w (fun H locs w => ?_)
        refine lv_aload_n hx hb dX9_orders_63 rfl (lv_at hl 1 rfl) ?_
        refine lv_iconst (v := 0) hx hb dX9_orders_64 (by decide) ?_
        refine m_put X w 0 sm_n0 sm_k0 ci9 27 (by decide) rfl rfl rfl rfl rfl fl_X9_294 dX9_orders_65 (fun V56 H locs eV56 w => ?_)
        replace h := bdi h _ eV56
        refine lv_aload_n hx hb dX9_orders_68 rfl (lv_at hl 1 rfl) ?_
        refine lv_iconst (v := (-1)) hx hb dX9_orders_69 (by decide) ?_
        refine m_put X w 0 sm_n0 sm_k0 ci9 28 (by decide) rfl rfl rfl rfl rfl fl_X9_297 dX9_orders_70 (fun V57 H locs eV57 w => ?_)
        replace h := bdi h _ eV57
        refine lv_aload_n hx hb dX9_orders_73 rfl (lv_at hl 1 rfl) ?_
        refine lv_sipush (v := 2400) hx hb dX9_orders_74 (by decide) ?_
        refine m_put X w 0 sm_n0 sm_k0 ci9 41 (by decide) rfl rfl rfl rfl rfl fl_X9_421 dX9_orders_77 (fun V58 H locs eV58 w => ?_)
        replace h := bdi h _ eV58
        refine lv_aload_n hx hb dX9_orders_80 rfl (lv_at hl 1 rfl) ?_
        refine m_get X w 0 sm_n0 sm_k0 ci9 41 (by decide) (fvI sm_k0 rfl) rfl fl_X9_421 dX9_orders_81 ?_
        refine lv_aload_n hx hb dX9_orders_84 rfl (lv_at hl 1 rfl) ?_
        refine m_get X w 0 sm_n0 sm_k0 ci9 2 (by decide) (fvR sm_k0 rfl sm_p2) rfl fl_X9_28 dX9_orders_85 ?_
        refine lv_bipush (v := 114) hx hb dX9_orders_88 (by decide) ?_
        obtain ⟨g59, h⟩ := cki h
        refine m_iald X w 2 sm_n2 sm_k2 sm_z2 g59 dX9_orders_90 ?_
        refine lv_iadd hx hb dX9_orders_91 ?_
        refine lv_topi (fun x60 ex60 => ?_)
        replace h := bdi h _ ex60
        refine lv_istore_n (lv' := [(2, .int x60), (1, .int x52), (0, .ref (ad 0))]) hx hb dX9_orders_92 rfl hl (by decide) rfl (fun ls hl => ?_)
        refine lv_iconst (v := 0) hx hb dX9_orders_93 (by decide) ?_
        refine lv_istore_n (lv' := [(3, .int (0 : Int32)), (2, .int x60), (1, .int x52), (0, .ref (ad 0))]) hx hb dX9_orders_94 rfl hl (by decide) rfl (fun ls hl => ?_)
        have g := L95 N V58 x52 x60 (0 : Int32) h
        rw [hG] at g
        exact g H locs ls w (lv_sub hl [3, 2, 1, 0] rfl)
      · replace h := ifF h c51
        refine lv_aload_n hx hb dX9_orders_34 rfl (lv_at hl 0 rfl) ?_
        refine m_get X w 0 sm_n0 sm_k0 ci9 30 (by decide) (fvR sm_k0 rfl sm_p30) rfl fl_X9_69 dX9_orders_35 ?_
        refine lv_iload_n hx hb dX9_orders_38 rfl (lv_at hl 1 rfl) ?_
        refine lv_aload_n hx hb dX9_orders_39 rfl (lv_at hl 0 rfl) ?_
        refine m_get X w 0 sm_n0 sm_k0 ci9 29 (by decide) (fvR sm_k0 rfl sm_p29) rfl fl_X9_66 dX9_orders_40 ?_
        refine lv_iload_n hx hb dX9_orders_43 rfl (lv_at hl 1 rfl) ?_
        obtain ⟨g83, h⟩ := cki h
        refine m_iald X w 13 sm_n13 sm_k13 sm_z13 g83 dX9_orders_44 ?_
        obtain ⟨g84, h⟩ := cki h
        refine m_iast X w 14 sm_n14 sm_k14 sm_z14 g84 dX9_orders_45 (fun V85 H locs eV85 w => ?_)
        replace h := bdi h _ eV85
        obtain ⟨x86, ex86⟩ : ∃ y : Int32, y = v1 + (1 : Int32) := ⟨_, rfl⟩
        replace h := bdi h _ ex86
        refine lv_iinc (v := x86) (lv' := [(1, .int x86), (0, .ref (ad 0))]) hx hb dX9_orders_46 hl (k := 1) rfl (by rw [ex86]; rfl) (by decide) rfl (fun ls hl => ?_)
        refine lv_goto (tgt := 27) hx hb dX9_orders_49 (by decide) ?_
        have g := ih27 V85 x86 h
        rw [hG] at g
        exact g H locs ls w (lv_sub hl [1, 0] rfl)
  rw [f_X9_orders] at h
  refine lv_aload_n hx hb dX9_orders_0 rfl (lv_at hl 0 rfl) ?_
  refine lv_iconst (v := (-1)) hx hb dX9_orders_1 (by decide) ?_
  refine m_put X w 0 sm_n0 sm_k0 ci9 40 (by decide) rfl rfl rfl rfl rfl fl_X9_97 dX9_orders_2 (fun V43 H locs eV43 w => ?_)
  replace h := bdi h _ eV43
  refine lv_aload_n hx hb dX9_orders_5 rfl (lv_at hl 0 rfl) ?_
  refine lv_iconst (v := 1) hx hb dX9_orders_6 (by decide) ?_
  obtain ⟨r44, V46, q45, h⟩ := obi h
  refine m_ci (m_rV (As := [.int (1 : Int32)]) (rest := []) X w hl mi_X9_readsAs ml_X9_248 0 sm_n0 sm_k0 rfl (c_X9_readsAs l D cy ad A Kc C0 N z V43 (1 : Int32) r44 V46 q45) ⟨⟨rfl, rfl, Nat.le_of_ble_eq_true rfl, Nat.le_of_ble_eq_true rfl⟩, Nat.le_of_ble_eq_true rfl, Nat.le_of_ble_eq_true rfl⟩ rfl rfl (Nat.le_of_ble_eq_true rfl) dX9_orders_7) w (fun H locs w => ?_)
  refine lv_if_ne (tgt := 20) hx hb dX9_orders_10 (by decide) (fun c47 => ?_) (fun c47 => ?_)
  · replace h := ifF h c47
    refine lv_aload_n hx hb dX9_orders_20 rfl (lv_at hl 0 rfl) ?_
    refine lv_iconst (v := 1) hx hb dX9_orders_21 (by decide) ?_
    obtain ⟨V50, q49, h⟩ := obvi h
    refine m_cv (m_rV (As := [.int (1 : Int32)]) (rest := []) X w hl mi_X9_laysAside ml_X9_418 0 sm_n0 sm_k0 rfl (c_X9_laysAside l D cy ad A Kc C0 N z V46 (1 : Int32) V50 q49) ⟨⟨rfl, rfl, Nat.le_of_ble_eq_true rfl, Nat.le_of_ble_eq_true rfl⟩, Nat.le_of_ble_eq_true rfl, Nat.le_of_ble_eq_true rfl⟩ rfl rfl (Nat.le_of_ble_eq_true rfl) dX9_orders_22) w (fun H locs w => ?_)
    refine lv_iconst (v := 0) hx hb dX9_orders_25 (by decide) ?_
    refine lv_istore_n (lv' := [(1, .int (0 : Int32)), (0, .ref (ad 0))]) hx hb dX9_orders_26 rfl hl (by decide) rfl (fun ls hl => ?_)
    have g := L27 N V50 (0 : Int32) h
    rw [hG] at g
    exact g H locs ls w (lv_sub hl [1, 0] rfl)
  · replace h := ifT h c47
    refine lv_aload_n hx hb dX9_orders_13 rfl (lv_at hl 0 rfl) ?_
    refine lv_bipush (v := (-6)) hx hb dX9_orders_14 (by decide) ?_
    obtain ⟨r87, V89, q88, h⟩ := obi h
    refine m_ci (m_rV (As := [.int (-6 : Int32)]) (rest := []) X w hl mi_X9_refuses ml_X9_109 0 sm_n0 sm_k0 rfl (c_X9_refuses l D cy ad A Kc C0 N z V46 (-6 : Int32) r87 V89 q88) ⟨⟨rfl, rfl, Nat.le_of_ble_eq_true rfl, Nat.le_of_ble_eq_true rfl⟩, Nat.le_of_ble_eq_true rfl, Nat.le_of_ble_eq_true rfl⟩ rfl rfl (Nat.le_of_ble_eq_true rfl) dX9_orders_16) w (fun H locs w => ?_)
    obtain ⟨rfl, rfl⟩ := reti h
    exact m_ri X w hr hlocks dX9_orders_19
