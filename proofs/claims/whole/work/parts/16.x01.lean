def f_X0_copyFrom_119 (N : Nat) (S : St) (o : Nat) (a1 : Nat) : Nat → Vt → Int32 → Option Vt
  | 0, _, _ => none
  | n + 1, V, v2 => if (6 : Int32) ≤ v2 then bd (sF V o 9 (V.1 a1 9)) (fun V45 => bd (sF V45 o 10 (V45.1 a1 10)) (fun V46 => bd (sF V46 o 11 (V46.1 a1 11)) (fun V47 => bd (sF V47 o 12 (V47.1 a1 12)) (fun V48 => bd (sF V48 o 13 (V48.1 a1 13)) (fun V49 => some V49))))) else ck v2 6 (bd (V.2.2.2 (a1 + 7) v2.toNatClampNeg) (fun t51 => nl t51 (ck v2 6 (bd (sR V (o + 7) v2.toNatClampNeg 0) (fun V55 => bd (v2 + (1 : Int32)) (fun x56 => (f_X0_copyFrom_119 N S o a1 n) V55 x56)))) (fun q52 => cg (tshB S q52) (ck v2 6 (bd (sR V (o + 7) v2.toNatClampNeg (q52 + 1)) (fun V58 => bd (v2 + (1 : Int32)) (fun x59 => (f_X0_copyFrom_119 N S o a1 n) V58 x59)))))))
def f_X0_copyFrom (N : Nat) (S : St) (V : Vt) (o : Nat) (a1 : Nat) : Option Vt := cg (cpB (0 : Int32) (0 : Int32) (25 : Int32) 25 25) (bd (sC V (o + 1) (va_cpy (V.2.1 (a1 + 1)) (V.2.1 (o + 1)) (0 : Int32).toNatClampNeg (0 : Int32).toNatClampNeg (25 : Int32).toNatClampNeg)) (fun V29 => cg (cpB (0 : Int32) (0 : Int32) (25 : Int32) 25 25) (bd (sC V29 (o + 2) (va_cpy (V29.2.1 (a1 + 2)) (V29.2.1 (o + 2)) (0 : Int32).toNatClampNeg (0 : Int32).toNatClampNeg (25 : Int32).toNatClampNeg)) (fun V31 => cg (cpB (0 : Int32) (0 : Int32) (10 : Int32) 10 10) (bd (sC V31 (o + 3) (va_cpy (V31.2.1 (a1 + 3)) (V31.2.1 (o + 3)) (0 : Int32).toNatClampNeg (0 : Int32).toNatClampNeg (10 : Int32).toNatClampNeg)) (fun V33 => cg (cpB (0 : Int32) (0 : Int32) (5 : Int32) 5 5) (bd (sC V33 (o + 4) (va_cpy (V33.2.1 (a1 + 4)) (V33.2.1 (o + 4)) (0 : Int32).toNatClampNeg (0 : Int32).toNatClampNeg (5 : Int32).toNatClampNeg)) (fun V35 => cg (cpB (0 : Int32) (0 : Int32) (5 : Int32) 5 5) (bd (sC V35 (o + 5) (va_cpy (V35.2.1 (a1 + 5)) (V35.2.1 (o + 5)) (0 : Int32).toNatClampNeg (0 : Int32).toNatClampNeg (5 : Int32).toNatClampNeg)) (fun V37 => cg (cpB (0 : Int32) (0 : Int32) (3 : Int32) 3 3) (bd (sC V37 (o + 6) (va_cpy (V37.2.1 (a1 + 6)) (V37.2.1 (o + 6)) (0 : Int32).toNatClampNeg (0 : Int32).toNatClampNeg (3 : Int32).toNatClampNeg)) (fun V39 => cg (cpB (0 : Int32) (0 : Int32) (24 : Int32) 24 24) (bd (sC V39 (o + 8) (va_cpy (V39.2.1 (a1 + 8)) (V39.2.1 (o + 8)) (0 : Int32).toNatClampNeg (0 : Int32).toNatClampNeg (24 : Int32).toNatClampNeg)) (fun V41 => cg (cpB (0 : Int32) (0 : Int32) (30 : Int32) 30 30) (bd (sC V41 (o + 9) (va_cpy (V41.2.1 (a1 + 9)) (V41.2.1 (o + 9)) (0 : Int32).toNatClampNeg (0 : Int32).toNatClampNeg (30 : Int32).toNatClampNeg)) (fun V43 => f_X0_copyFrom_119 N S o a1 N V43 (0 : Int32)))))))))))))))))
set_option maxHeartbeats 4000000 in
set_option maxRecDepth 100000 in
theorem c_X0_copyFrom (l : Launch) (D : va_G) (cy : Nat → ClassId) (ad : Nat → Nat) (A : Nat → Prop) (Kc : State → Prop) (C0 : Cx ad A Kc) (N : Nat) (S : St) (V : Vt) (o : Nat) (hs : shp S o t0) (a1 : Nat) (hs_a1 : shp S a1 t0) (V' : Vt) (h : f_X0_copyFrom N S V o a1 = some V') : Met l yX0_copyFrom (mw yX0_copyFrom cX0_copyFrom 3 none) { frames := 1, cells := 0, slots := 0, locals := 40 } (PreM D cy ad Kc S V [.ref (ad o), .ref (ad a1)]) (QV D cy ad A S V') 0 0 A := by
  refine ct_go C0 (own := RX0) rfl (by decide) rfl ?_
  intro p e s m below meth c ls H locs X hr hlocks hnm hl w
  have hx := X.1.1
  have hb := X.1.2.1
  have hown := X.2.1
  have hts := X.2.2.1
  have hl : lv_has ls 3 [(0, .ref (ad o)), (1, .ref (ad a1))] := hl
  obtain ⟨G, hG⟩ : ∃ G : Nat → Vt → List (Nat × Value) → List Value → Prop, G = fun pc V lv st => ∀ (H : Heap) (locs : List Loc) (ls : Array Slot), Wd D cy ad A s.heap S V H locs → lv_has ls 3 lv → W p l e { frames := 1, cells := 0, slots := 0, locals := 40 } s m ([.ref (ad o), .ref (ad a1)] : List Value).toArray below meth c H locs 0 0 (MQ below (QV D cy ad A S V') ([.ref (ad o), .ref (ad a1)] : List Value).toArray s 0 0 A) (F0 m pc ls st) := ⟨_, rfl⟩
  have L119 : ∀ (n119 : Nat) (V : Vt) (v2 : Int32), f_X0_copyFrom_119 N S o a1 n119 V v2 = some V' → G 119 V [(0, .ref (ad o)), (1, .ref (ad a1)), (2, .int v2)] [] := by
    intro n119
    induction n119 with
    | zero => intro V v2 h; rw [f_X0_copyFrom_119] at h; cases h
    | succ n119 ih119 =>
      intro V v2 h
      rw [hG]
      intro H locs ls w hl
      rw [f_X0_copyFrom_119] at h
      refine lv_iload_n hx hb dX0_copyFrom_119 rfl (lv_at hl 2 rfl) ?_
      refine lv_bipush (v := 6) hx hb dX0_copyFrom_120 (by decide) ?_
      refine lv_icmp_ge (tgt := 143) hx hb dX0_copyFrom_122 (by decide) (fun c44 => ?_) (fun c44 => ?_)
      · replace h := ifT h c44
        refine lv_aload_n hx hb dX0_copyFrom_143 rfl (lv_at hl 0 rfl) ?_
        refine lv_aload_n hx hb dX0_copyFrom_144 rfl (lv_at hl 1 rfl) ?_
        refine m_get X w a1 (shn hs_a1 0 rfl) (shk hs_a1 0 rfl : S.2.1 a1 = 0) ci0 9 (by decide) (fvI (shk hs_a1 0 rfl : S.2.1 a1 = 0) rfl) rfl fl_X0_52 dX0_copyFrom_145 ?_
        refine m_put X w o (shn hs 0 rfl) (shk hs 0 rfl : S.2.1 o = 0) ci0 9 (by decide) rfl rfl rfl rfl rfl fl_X0_52 dX0_copyFrom_148 (fun V45 H locs eV45 w => ?_)
        replace h := bdi h _ eV45
        refine lv_aload_n hx hb dX0_copyFrom_151 rfl (lv_at hl 0 rfl) ?_
        refine lv_aload_n hx hb dX0_copyFrom_152 rfl (lv_at hl 1 rfl) ?_
        refine m_get X w a1 (shn hs_a1 0 rfl) (shk hs_a1 0 rfl : S.2.1 a1 = 0) ci0 10 (by decide) (fvI (shk hs_a1 0 rfl : S.2.1 a1 = 0) rfl) rfl fl_X0_55 dX0_copyFrom_153 ?_
        refine m_put X w o (shn hs 0 rfl) (shk hs 0 rfl : S.2.1 o = 0) ci0 10 (by decide) rfl rfl rfl rfl rfl fl_X0_55 dX0_copyFrom_156 (fun V46 H locs eV46 w => ?_)
        replace h := bdi h _ eV46
        refine lv_aload_n hx hb dX0_copyFrom_159 rfl (lv_at hl 0 rfl) ?_
        refine lv_aload_n hx hb dX0_copyFrom_160 rfl (lv_at hl 1 rfl) ?_
        refine m_get X w a1 (shn hs_a1 0 rfl) (shk hs_a1 0 rfl : S.2.1 a1 = 0) ci0 11 (by decide) (fvI (shk hs_a1 0 rfl : S.2.1 a1 = 0) rfl) rfl fl_X0_42 dX0_copyFrom_161 ?_
        refine m_put X w o (shn hs 0 rfl) (shk hs 0 rfl : S.2.1 o = 0) ci0 11 (by decide) rfl rfl rfl rfl rfl fl_X0_42 dX0_copyFrom_164 (fun V47 H locs eV47 w => ?_)
        replace h := bdi h _ eV47
        refine lv_aload_n hx hb dX0_copyFrom_167 rfl (lv_at hl 0 rfl) ?_
        refine lv_aload_n hx hb dX0_copyFrom_168 rfl (lv_at hl 1 rfl) ?_
        refine m_get X w a1 (shn hs_a1 0 rfl) (shk hs_a1 0 rfl : S.2.1 a1 = 0) ci0 12 (by decide) (fvI (shk hs_a1 0 rfl : S.2.1 a1 = 0) rfl) rfl fl_X0_58 dX0_copyFrom_169 ?_
        refine m_put X w o (shn hs 0 rfl) (shk hs 0 rfl : S.2.1 o = 0) ci0 12 (by decide) rfl rfl rfl rfl rfl fl_X0_58 dX0_copyFrom_172 (fun V48 H locs eV48 w => ?_)
        replace h := bdi h _ eV48
        refine lv_aload_n hx hb dX0_copyFrom_175 rfl (lv_at hl 0 rfl) ?_
        refine lv_aload_n hx hb dX0_copyFrom_176 rfl (lv_at hl 1 rfl) ?_
        refine m_get X w a1 (shn hs_a1 0 rfl) (shk hs_a1 0 rfl : S.2.1 a1 = 0) ci0 13 (by decide) (fvI (shk hs_a1 0 rfl : S.2.1 a1 = 0) rfl) rfl fl_X0_61 dX0_copyFrom_177 ?_
        refine m_put X w o (shn hs 0 rfl) (shk hs 0 rfl : S.2.1 o = 0) ci0 13 (by decide) rfl rfl rfl rfl rfl fl_X0_61 dX0_copyFrom_180 (fun V49 H locs eV49 w => ?_)
        replace h := bdi h _ eV49
        obtain rfl := Option.some.inj h
        exact m_rv X w hr hlocks dX0_copyFrom_183
      · replace h := ifF h c44
        refine lv_aload_n hx hb dX0_copyFrom_125 rfl (lv_at hl 0 rfl) ?_
        refine m_get X w o (shn hs 0 rfl) (shk hs 0 rfl : S.2.1 o = 0) ci0 6 (by decide) (fvR (shk hs 0 rfl : S.2.1 o = 0) rfl (shq hs 0 6 rfl rfl : S.2.2.2.1 o 6 = (o + 7) + 1)) rfl fl_X0_32 dX0_copyFrom_126 ?_
        refine lv_iload_n hx hb dX0_copyFrom_129 rfl (lv_at hl 2 rfl) ?_
        refine lv_aload_n hx hb dX0_copyFrom_130 rfl (lv_at hl 1 rfl) ?_
        refine m_get X w a1 (shn hs_a1 0 rfl) (shk hs_a1 0 rfl : S.2.1 a1 = 0) ci0 6 (by decide) (fvR (shk hs_a1 0 rfl : S.2.1 a1 = 0) rfl (shq hs_a1 0 6 rfl rfl : S.2.2.2.1 a1 6 = (a1 + 7) + 1)) rfl fl_X0_32 dX0_copyFrom_131 ?_
        refine lv_iload_n hx hb dX0_copyFrom_134 rfl (lv_at hl 2 rfl) ?_
        obtain ⟨g50, h⟩ := cki h
        refine m_aald X w (a1 + 7) (shn hs_a1 7 rfl) (shk hs_a1 7 rfl : S.2.1 (a1 + 7) = 15) 5 rfl rfl rfl rfl (shz hs_a1 7 rfl : S.2.2.1 (a1 + 7) = 6) g50 dX0_copyFrom_135 ?_
        obtain ⟨t51, et51⟩ : ∃ y : Nat, y = V.2.2.2 (a1 + 7) v2.toNatClampNeg := ⟨_, rfl⟩
        rw [← et51]
        replace h := bdi h _ et51
        cases t51 with
        | zero =>
          replace h := nl0 h
          obtain ⟨g54, h⟩ := cki h
          refine m_aastN X w (o + 7) (shn hs 7 rfl) (shk hs 7 rfl : S.2.1 (o + 7) = 15) 5 rfl rfl rfl rfl (shz hs 7 rfl : S.2.2.1 (o + 7) = 6) g54 dX0_copyFrom_136 (fun V55 H locs eV55 w => ?_)
          replace h := bdi h _ eV55
          obtain ⟨x56, ex56⟩ : ∃ y : Int32, y = v2 + (1 : Int32) := ⟨_, rfl⟩
          replace h := bdi h _ ex56
          refine lv_iinc (v := x56) (lv' := [(2, .int x56), (0, .ref (ad o)), (1, .ref (ad a1))]) hx hb dX0_copyFrom_137 hl (k := 2) rfl (by rw [ex56]; rfl) (by decide) rfl (fun ls hl => ?_)
          refine lv_goto (tgt := 119) hx hb dX0_copyFrom_140 (by decide) ?_
          have g := ih119 V55 x56 h
          rw [hG] at g
          exact g H locs ls w (lv_sub hl [1, 2, 0] rfl)
        | succ q52 =>
          replace h := nls h
          obtain ⟨g53, h⟩ := cgi h
          have hs_q52 := tsh_of g53
          obtain ⟨g57, h⟩ := cki h
          refine m_aast X w (o + 7) (shn hs 7 rfl) (shk hs 7 rfl : S.2.1 (o + 7) = 15) 5 rfl rfl rfl (shz hs 7 rfl : S.2.2.1 (o + 7) = 6) g57 q52 (Nat.lt_of_le_of_lt (Nat.le_add_right q52 2) hs_q52.1.1) hs_q52.1.2 rfl rfl dX0_copyFrom_136 (fun V58 H locs eV58 w => ?_)
          replace h := bdi h _ eV58
          obtain ⟨x59, ex59⟩ : ∃ y : Int32, y = v2 + (1 : Int32) := ⟨_, rfl⟩
          replace h := bdi h _ ex59
          refine lv_iinc (v := x59) (lv' := [(2, .int x59), (0, .ref (ad o)), (1, .ref (ad a1))]) hx hb dX0_copyFrom_137 hl (k := 2) rfl (by rw [ex59]; rfl) (by decide) rfl (fun ls hl => ?_)
          refine lv_goto (tgt := 119) hx hb dX0_copyFrom_140 (by decide) ?_
          have g := ih119 V58 x59 h
          rw [hG] at g
          exact g H locs ls w (lv_sub hl [1, 2, 0] rfl)
  rw [f_X0_copyFrom] at h
  refine lv_aload_n hx hb dX0_copyFrom_0 rfl (lv_at hl 1 rfl) ?_
  refine m_get X w a1 (shn hs_a1 0 rfl) (shk hs_a1 0 rfl : S.2.1 a1 = 0) ci0 0 (by decide) (fvR (shk hs_a1 0 rfl : S.2.1 a1 = 0) rfl (shq hs_a1 0 0 rfl rfl : S.2.2.2.1 a1 0 = (a1 + 1) + 1)) rfl fl_X0_9 dX0_copyFrom_1 ?_
  refine lv_iconst (v := 0) hx hb dX0_copyFrom_4 (by decide) ?_
  refine lv_aload_n hx hb dX0_copyFrom_5 rfl (lv_at hl 0 rfl) ?_
  refine m_get X w o (shn hs 0 rfl) (shk hs 0 rfl : S.2.1 o = 0) ci0 0 (by decide) (fvR (shk hs 0 rfl : S.2.1 o = 0) rfl (shq hs 0 0 rfl rfl : S.2.2.2.1 o 0 = (o + 1) + 1)) rfl fl_X0_9 dX0_copyFrom_6 ?_
  refine lv_iconst (v := 0) hx hb dX0_copyFrom_9 (by decide) ?_
  refine lv_bipush (v := 25) hx hb dX0_copyFrom_10 (by decide) ?_
  obtain ⟨g28, h⟩ := cgi h
  have g28 := cpB_of g28
  refine m_copy (rest := []) X w hl ml_X0_46 nat_copy sta_copy ini_copy (a1 + 1) (o + 1) (shn hs_a1 1 rfl) (shn hs 1 rfl) (shk hs_a1 1 rfl : S.2.1 (a1 + 1) = 11) (shk hs 1 rfl : S.2.1 (o + 1) = 11) (shz hs_a1 1 rfl : S.2.2.1 (a1 + 1) = 25) (shz hs 1 rfl : S.2.2.1 (o + 1) = 25) g28.1 g28.2.1 g28.2.2.1 g28.2.2.2.1 g28.2.2.2.2 (Nat.le_of_ble_eq_true rfl) (Nat.le_of_ble_eq_true rfl) dX0_copyFrom_12 (fun V29 H locs eV29 w => ?_)
  replace h := bdi h _ eV29
  refine lv_aload_n hx hb dX0_copyFrom_15 rfl (lv_at hl 1 rfl) ?_
  refine m_get X w a1 (shn hs_a1 0 rfl) (shk hs_a1 0 rfl : S.2.1 a1 = 0) ci0 1 (by decide) (fvR (shk hs_a1 0 rfl : S.2.1 a1 = 0) rfl (shq hs_a1 0 1 rfl rfl : S.2.2.2.1 a1 1 = (a1 + 2) + 1)) rfl fl_X0_15 dX0_copyFrom_16 ?_
  refine lv_iconst (v := 0) hx hb dX0_copyFrom_19 (by decide) ?_
  refine lv_aload_n hx hb dX0_copyFrom_20 rfl (lv_at hl 0 rfl) ?_
  refine m_get X w o (shn hs 0 rfl) (shk hs 0 rfl : S.2.1 o = 0) ci0 1 (by decide) (fvR (shk hs 0 rfl : S.2.1 o = 0) rfl (shq hs 0 1 rfl rfl : S.2.2.2.1 o 1 = (o + 2) + 1)) rfl fl_X0_15 dX0_copyFrom_21 ?_
  refine lv_iconst (v := 0) hx hb dX0_copyFrom_24 (by decide) ?_
  refine lv_bipush (v := 25) hx hb dX0_copyFrom_25 (by decide) ?_
  obtain ⟨g30, h⟩ := cgi h
  have g30 := cpB_of g30
  refine m_copy (rest := []) X w hl ml_X0_46 nat_copy sta_copy ini_copy (a1 + 2) (o + 2) (shn hs_a1 2 rfl) (shn hs 2 rfl) (shk hs_a1 2 rfl : S.2.1 (a1 + 2) = 11) (shk hs 2 rfl : S.2.1 (o + 2) = 11) (shz hs_a1 2 rfl : S.2.2.1 (a1 + 2) = 25) (shz hs 2 rfl : S.2.2.1 (o + 2) = 25) g30.1 g30.2.1 g30.2.2.1 g30.2.2.2.1 g30.2.2.2.2 (Nat.le_of_ble_eq_true rfl) (Nat.le_of_ble_eq_true rfl) dX0_copyFrom_27 (fun V31 H locs eV31 w => ?_)
  replace h := bdi h _ eV31
  refine lv_aload_n hx hb dX0_copyFrom_30 rfl (lv_at hl 1 rfl) ?_
  refine m_get X w a1 (shn hs_a1 0 rfl) (shk hs_a1 0 rfl : S.2.1 a1 = 0) ci0 2 (by decide) (fvR (shk hs_a1 0 rfl : S.2.1 a1 = 0) rfl (shq hs_a1 0 2 rfl rfl : S.2.2.2.1 a1 2 = (a1 + 3) + 1)) rfl fl_X0_18 dX0_copyFrom_31 ?_
  refine lv_iconst (v := 0) hx hb dX0_copyFrom_34 (by decide) ?_
  refine lv_aload_n hx hb dX0_copyFrom_35 rfl (lv_at hl 0 rfl) ?_
  refine m_get X w o (shn hs 0 rfl) (shk hs 0 rfl : S.2.1 o = 0) ci0 2 (by decide) (fvR (shk hs 0 rfl : S.2.1 o = 0) rfl (shq hs 0 2 rfl rfl : S.2.2.2.1 o 2 = (o + 3) + 1)) rfl fl_X0_18 dX0_copyFrom_36 ?_
  refine lv_iconst (v := 0) hx hb dX0_copyFrom_39 (by decide) ?_
  refine lv_bipush (v := 10) hx hb dX0_copyFrom_40 (by decide) ?_
  obtain ⟨g32, h⟩ := cgi h
  have g32 := cpB_of g32
  refine m_copy (rest := []) X w hl ml_X0_46 nat_copy sta_copy ini_copy (a1 + 3) (o + 3) (shn hs_a1 3 rfl) (shn hs 3 rfl) (shk hs_a1 3 rfl : S.2.1 (a1 + 3) = 11) (shk hs 3 rfl : S.2.1 (o + 3) = 11) (shz hs_a1 3 rfl : S.2.2.1 (a1 + 3) = 10) (shz hs 3 rfl : S.2.2.1 (o + 3) = 10) g32.1 g32.2.1 g32.2.2.1 g32.2.2.2.1 g32.2.2.2.2 (Nat.le_of_ble_eq_true rfl) (Nat.le_of_ble_eq_true rfl) dX0_copyFrom_42 (fun V33 H locs eV33 w => ?_)
  replace h := bdi h _ eV33
  refine lv_aload_n hx hb dX0_copyFrom_45 rfl (lv_at hl 1 rfl) ?_
  refine m_get X w a1 (shn hs_a1 0 rfl) (shk hs_a1 0 rfl : S.2.1 a1 = 0) ci0 3 (by decide) (fvR (shk hs_a1 0 rfl : S.2.1 a1 = 0) rfl (shq hs_a1 0 3 rfl rfl : S.2.2.2.1 a1 3 = (a1 + 4) + 1)) rfl fl_X0_21 dX0_copyFrom_46 ?_
  refine lv_iconst (v := 0) hx hb dX0_copyFrom_49 (by decide) ?_
  refine lv_aload_n hx hb dX0_copyFrom_50 rfl (lv_at hl 0 rfl) ?_
  refine m_get X w o (shn hs 0 rfl) (shk hs 0 rfl : S.2.1 o = 0) ci0 3 (by decide) (fvR (shk hs 0 rfl : S.2.1 o = 0) rfl (shq hs 0 3 rfl rfl : S.2.2.2.1 o 3 = (o + 4) + 1)) rfl fl_X0_21 dX0_copyFrom_51 ?_
  refine lv_iconst (v := 0) hx hb dX0_copyFrom_54 (by decide) ?_
  refine lv_iconst (v := 5) hx hb dX0_copyFrom_55 (by decide) ?_
  obtain ⟨g34, h⟩ := cgi h
  have g34 := cpB_of g34
  refine m_copy (rest := []) X w hl ml_X0_46 nat_copy sta_copy ini_copy (a1 + 4) (o + 4) (shn hs_a1 4 rfl) (shn hs 4 rfl) (shk hs_a1 4 rfl : S.2.1 (a1 + 4) = 11) (shk hs 4 rfl : S.2.1 (o + 4) = 11) (shz hs_a1 4 rfl : S.2.2.1 (a1 + 4) = 5) (shz hs 4 rfl : S.2.2.1 (o + 4) = 5) g34.1 g34.2.1 g34.2.2.1 g34.2.2.2.1 g34.2.2.2.2 (Nat.le_of_ble_eq_true rfl) (Nat.le_of_ble_eq_true rfl) dX0_copyFrom_56 (fun V35 H locs eV35 w => ?_)
  replace h := bdi h _ eV35
  refine lv_aload_n hx hb dX0_copyFrom_59 rfl (lv_at hl 1 rfl) ?_
  refine m_get X w a1 (shn hs_a1 0 rfl) (shk hs_a1 0 rfl : S.2.1 a1 = 0) ci0 4 (by decide) (fvR (shk hs_a1 0 rfl : S.2.1 a1 = 0) rfl (shq hs_a1 0 4 rfl rfl : S.2.2.2.1 a1 4 = (a1 + 5) + 1)) rfl fl_X0_24 dX0_copyFrom_60 ?_
  refine lv_iconst (v := 0) hx hb dX0_copyFrom_63 (by decide) ?_
  refine lv_aload_n hx hb dX0_copyFrom_64 rfl (lv_at hl 0 rfl) ?_
  refine m_get X w o (shn hs 0 rfl) (shk hs 0 rfl : S.2.1 o = 0) ci0 4 (by decide) (fvR (shk hs 0 rfl : S.2.1 o = 0) rfl (shq hs 0 4 rfl rfl : S.2.2.2.1 o 4 = (o + 5) + 1)) rfl fl_X0_24 dX0_copyFrom_65 ?_
  refine lv_iconst (v := 0) hx hb dX0_copyFrom_68 (by decide) ?_
  refine lv_iconst (v := 5) hx hb dX0_copyFrom_69 (by decide) ?_
  obtain ⟨g36, h⟩ := cgi h
  have g36 := cpB_of g36
  refine m_copy (rest := []) X w hl ml_X0_46 nat_copy sta_copy ini_copy (a1 + 5) (o + 5) (shn hs_a1 5 rfl) (shn hs 5 rfl) (shk hs_a1 5 rfl : S.2.1 (a1 + 5) = 11) (shk hs 5 rfl : S.2.1 (o + 5) = 11) (shz hs_a1 5 rfl : S.2.2.1 (a1 + 5) = 5) (shz hs 5 rfl : S.2.2.1 (o + 5) = 5) g36.1 g36.2.1 g36.2.2.1 g36.2.2.2.1 g36.2.2.2.2 (Nat.le_of_ble_eq_true rfl) (Nat.le_of_ble_eq_true rfl) dX0_copyFrom_70 (fun V37 H locs eV37 w => ?_)
  replace h := bdi h _ eV37
  refine lv_aload_n hx hb dX0_copyFrom_73 rfl (lv_at hl 1 rfl) ?_
  refine m_get X w a1 (shn hs_a1 0 rfl) (shk hs_a1 0 rfl : S.2.1 a1 = 0) ci0 5 (by decide) (fvR (shk hs_a1 0 rfl : S.2.1 a1 = 0) rfl (shq hs_a1 0 5 rfl rfl : S.2.2.2.1 a1 5 = (a1 + 6) + 1)) rfl fl_X0_27 dX0_copyFrom_74 ?_
  refine lv_iconst (v := 0) hx hb dX0_copyFrom_77 (by decide) ?_
  refine lv_aload_n hx hb dX0_copyFrom_78 rfl (lv_at hl 0 rfl) ?_
  refine m_get X w o (shn hs 0 rfl) (shk hs 0 rfl : S.2.1 o = 0) ci0 5 (by decide) (fvR (shk hs 0 rfl : S.2.1 o = 0) rfl (shq hs 0 5 rfl rfl : S.2.2.2.1 o 5 = (o + 6) + 1)) rfl fl_X0_27 dX0_copyFrom_79 ?_
  refine lv_iconst (v := 0) hx hb dX0_copyFrom_82 (by decide) ?_
  refine lv_iconst (v := 3) hx hb dX0_copyFrom_83 (by decide) ?_
  obtain ⟨g38, h⟩ := cgi h
  have g38 := cpB_of g38
  refine m_copy (rest := []) X w hl ml_X0_46 nat_copy sta_copy ini_copy (a1 + 6) (o + 6) (shn hs_a1 6 rfl) (shn hs 6 rfl) (shk hs_a1 6 rfl : S.2.1 (a1 + 6) = 11) (shk hs 6 rfl : S.2.1 (o + 6) = 11) (shz hs_a1 6 rfl : S.2.2.1 (a1 + 6) = 3) (shz hs 6 rfl : S.2.2.1 (o + 6) = 3) g38.1 g38.2.1 g38.2.2.1 g38.2.2.2.1 g38.2.2.2.2 (Nat.le_of_ble_eq_true rfl) (Nat.le_of_ble_eq_true rfl) dX0_copyFrom_84 (fun V39 H locs eV39 w => ?_)
  replace h := bdi h _ eV39
  refine lv_aload_n hx hb dX0_copyFrom_87 rfl (lv_at hl 1 rfl) ?_
  refine m_get X w a1 (shn hs_a1 0 rfl) (shk hs_a1 0 rfl : S.2.1 a1 = 0) ci0 7 (by decide) (fvR (shk hs_a1 0 rfl : S.2.1 a1 = 0) rfl (shq hs_a1 0 7 rfl rfl : S.2.2.2.1 a1 7 = (a1 + 8) + 1)) rfl fl_X0_36 dX0_copyFrom_88 ?_
  refine lv_iconst (v := 0) hx hb dX0_copyFrom_91 (by decide) ?_
  refine lv_aload_n hx hb dX0_copyFrom_92 rfl (lv_at hl 0 rfl) ?_
  refine m_get X w o (shn hs 0 rfl) (shk hs 0 rfl : S.2.1 o = 0) ci0 7 (by decide) (fvR (shk hs 0 rfl : S.2.1 o = 0) rfl (shq hs 0 7 rfl rfl : S.2.2.2.1 o 7 = (o + 8) + 1)) rfl fl_X0_36 dX0_copyFrom_93 ?_
  refine lv_iconst (v := 0) hx hb dX0_copyFrom_96 (by decide) ?_
  refine lv_bipush (v := 24) hx hb dX0_copyFrom_97 (by decide) ?_
  obtain ⟨g40, h⟩ := cgi h
  have g40 := cpB_of g40
  refine m_copy (rest := []) X w hl ml_X0_46 nat_copy sta_copy ini_copy (a1 + 8) (o + 8) (shn hs_a1 8 rfl) (shn hs 8 rfl) (shk hs_a1 8 rfl : S.2.1 (a1 + 8) = 11) (shk hs 8 rfl : S.2.1 (o + 8) = 11) (shz hs_a1 8 rfl : S.2.2.1 (a1 + 8) = 24) (shz hs 8 rfl : S.2.2.1 (o + 8) = 24) g40.1 g40.2.1 g40.2.2.1 g40.2.2.2.1 g40.2.2.2.2 (Nat.le_of_ble_eq_true rfl) (Nat.le_of_ble_eq_true rfl) dX0_copyFrom_99 (fun V41 H locs eV41 w => ?_)
  replace h := bdi h _ eV41
  refine lv_aload_n hx hb dX0_copyFrom_102 rfl (lv_at hl 1 rfl) ?_
  refine m_get X w a1 (shn hs_a1 0 rfl) (shk hs_a1 0 rfl : S.2.1 a1 = 0) ci0 8 (by decide) (fvR (shk hs_a1 0 rfl : S.2.1 a1 = 0) rfl (shq hs_a1 0 8 rfl rfl : S.2.2.2.1 a1 8 = (a1 + 9) + 1)) rfl fl_X0_39 dX0_copyFrom_103 ?_
  refine lv_iconst (v := 0) hx hb dX0_copyFrom_106 (by decide) ?_
  refine lv_aload_n hx hb dX0_copyFrom_107 rfl (lv_at hl 0 rfl) ?_
  refine m_get X w o (shn hs 0 rfl) (shk hs 0 rfl : S.2.1 o = 0) ci0 8 (by decide) (fvR (shk hs 0 rfl : S.2.1 o = 0) rfl (shq hs 0 8 rfl rfl : S.2.2.2.1 o 8 = (o + 9) + 1)) rfl fl_X0_39 dX0_copyFrom_108 ?_
  refine lv_iconst (v := 0) hx hb dX0_copyFrom_111 (by decide) ?_
  refine lv_bipush (v := 30) hx hb dX0_copyFrom_112 (by decide) ?_
  obtain ⟨g42, h⟩ := cgi h
  have g42 := cpB_of g42
  refine m_copy (rest := []) X w hl ml_X0_46 nat_copy sta_copy ini_copy (a1 + 9) (o + 9) (shn hs_a1 9 rfl) (shn hs 9 rfl) (shk hs_a1 9 rfl : S.2.1 (a1 + 9) = 11) (shk hs 9 rfl : S.2.1 (o + 9) = 11) (shz hs_a1 9 rfl : S.2.2.1 (a1 + 9) = 30) (shz hs 9 rfl : S.2.2.1 (o + 9) = 30) g42.1 g42.2.1 g42.2.2.1 g42.2.2.2.1 g42.2.2.2.2 (Nat.le_of_ble_eq_true rfl) (Nat.le_of_ble_eq_true rfl) dX0_copyFrom_114 (fun V43 H locs eV43 w => ?_)
  replace h := bdi h _ eV43
  refine lv_iconst (v := 0) hx hb dX0_copyFrom_117 (by decide) ?_
  refine lv_istore_n (lv' := [(2, .int (0 : Int32)), (0, .ref (ad o)), (1, .ref (ad a1))]) hx hb dX0_copyFrom_118 rfl hl (by decide) rfl (fun ls hl => ?_)
  have g := L119 N V43 (0 : Int32) h
  rw [hG] at g
  exact g H locs ls w (lv_sub hl [1, 2, 0] rfl)
def f_X0_hasClerk (N : Nat) (S : St) (V : Vt) (o : Nat) (a1 : Int32) : Option Int32 := if a1 < 0 then some (0 : Int32) else if (V.1 o 9) ≤ a1 then some (0 : Int32) else some (1 : Int32)
set_option maxHeartbeats 4000000 in
set_option maxRecDepth 100000 in
theorem c_X0_hasClerk (l : Launch) (D : va_G) (cy : Nat → ClassId) (ad : Nat → Nat) (A : Nat → Prop) (Kc : State → Prop) (C0 : Cx ad A Kc) (N : Nat) (S : St) (V : Vt) (o : Nat) (hs : shp S o t0) (a1 : Int32) (r : Int32) (h : f_X0_hasClerk N S V o a1 = some r) : Met l yX0_hasClerk (mw yX0_hasClerk cX0_hasClerk 2 (some .boolean)) { frames := 0, cells := 0, slots := 0, locals := 0 } (PreM D cy ad Kc S V [.ref (ad o), .int a1]) (QI D cy ad A r S V) 0 0 A := by
  refine ct_go C0 (own := RX0) rfl (by decide) rfl ?_
  intro p e s m below meth c ls H locs X hr hlocks hnm hl w
  have hx := X.1.1
  have hb := X.1.2.1
  have hown := X.2.1
  have hts := X.2.2.1
  have hl : lv_has ls 2 [(0, .ref (ad o)), (1, .int a1)] := hl
  rw [f_X0_hasClerk] at h
  refine lv_iload_n hx hb dX0_hasClerk_0 rfl (lv_at hl 1 rfl) ?_
  refine lv_if_lt (tgt := 16) hx hb dX0_hasClerk_1 (by decide) (fun c1 => ?_) (fun c1 => ?_)
  · replace h := ifT h c1
    refine lv_iconst (v := 0) hx hb dX0_hasClerk_16 (by decide) ?_
    obtain rfl := Option.some.inj h
    exact m_rz X w hr rfl hlocks dX0_hasClerk_17
  · replace h := ifF h c1
    refine lv_iload_n hx hb dX0_hasClerk_4 rfl (lv_at hl 1 rfl) ?_
    refine lv_aload_n hx hb dX0_hasClerk_5 rfl (lv_at hl 0 rfl) ?_
    refine m_get X w o (shn hs 0 rfl) (shk hs 0 rfl : S.2.1 o = 0) ci0 9 (by decide) (fvI (shk hs 0 rfl : S.2.1 o = 0) rfl) rfl fl_X0_52 dX0_hasClerk_6 ?_
    refine lv_icmp_ge (tgt := 16) hx hb dX0_hasClerk_9 (by decide) (fun c2 => ?_) (fun c2 => ?_)
    · replace h := ifT h c2
      refine lv_iconst (v := 0) hx hb dX0_hasClerk_16 (by decide) ?_
      obtain rfl := Option.some.inj h
      exact m_rz X w hr rfl hlocks dX0_hasClerk_17
    · replace h := ifF h c2
      refine lv_iconst (v := 1) hx hb dX0_hasClerk_12 (by decide) ?_
      refine lv_goto (tgt := 17) hx hb dX0_hasClerk_13 (by decide) ?_
      obtain rfl := Option.some.inj h
      exact m_rz X w hr rfl hlocks dX0_hasClerk_17
def f_X0_lawInForce (N : Nat) (S : St) (V : Vt) (o : Nat) : Option Nat := if (V.1 o 11) < 0 then some 0 else if (V.1 o 10) ≤ (V.1 o 11) then some 0 else ck (V.1 o 11) 6 (bd (V.2.2.2 (o + 7) (V.1 o 11).toNatClampNeg) (fun t7 => nl t7 (some 0) (fun q8 => cg (tshB S q8) (some (q8 + 1)))))
set_option maxHeartbeats 4000000 in
set_option maxRecDepth 100000 in
theorem c_X0_lawInForce (l : Launch) (D : va_G) (cy : Nat → ClassId) (ad : Nat → Nat) (A : Nat → Prop) (Kc : State → Prop) (C0 : Cx ad A Kc) (N : Nat) (S : St) (V : Vt) (o : Nat) (hs : shp S o t0) (r : Nat) (h : f_X0_lawInForce N S V o = some r) : Met l yX0_lawInForce (mw yX0_lawInForce cX0_lawInForce 1 (some (.object "LedgerHounds$Text"))) { frames := 0, cells := 0, slots := 0, locals := 0 } (PreM D cy ad Kc S V [.ref (ad o)]) (QN D cy ad A r S V) 0 0 A := by
  refine ct_go C0 (own := RX0) rfl (by decide) rfl ?_
  intro p e s m below meth c ls H locs X hr hlocks hnm hl w
  have hx := X.1.1
  have hb := X.1.2.1
  have hown := X.2.1
  have hts := X.2.2.1
  have hl : lv_has ls 1 [(0, .ref (ad o))] := hl
  rw [f_X0_lawInForce] at h
  refine lv_aload_n hx hb dX0_lawInForce_0 rfl (lv_at hl 0 rfl) ?_
  refine m_get X w o (shn hs 0 rfl) (shk hs 0 rfl : S.2.1 o = 0) ci0 11 (by decide) (fvI (shk hs 0 rfl : S.2.1 o = 0) rfl) rfl fl_X0_42 dX0_lawInForce_1 ?_
  refine lv_if_lt (tgt := 30) hx hb dX0_lawInForce_4 (by decide) (fun c4 => ?_) (fun c4 => ?_)
  · replace h := ifT h c4
    refine lv_null hx hb dX0_lawInForce_30 ?_
    obtain rfl := Option.some.inj h
    exact m_rn0 X w hr (Or.inl ⟨_, rfl⟩) hlocks dX0_lawInForce_31
  · replace h := ifF h c4
    refine lv_aload_n hx hb dX0_lawInForce_7 rfl (lv_at hl 0 rfl) ?_
    refine m_get X w o (shn hs 0 rfl) (shk hs 0 rfl : S.2.1 o = 0) ci0 11 (by decide) (fvI (shk hs 0 rfl : S.2.1 o = 0) rfl) rfl fl_X0_42 dX0_lawInForce_8 ?_
    refine lv_aload_n hx hb dX0_lawInForce_11 rfl (lv_at hl 0 rfl) ?_
    refine m_get X w o (shn hs 0 rfl) (shk hs 0 rfl : S.2.1 o = 0) ci0 10 (by decide) (fvI (shk hs 0 rfl : S.2.1 o = 0) rfl) rfl fl_X0_55 dX0_lawInForce_12 ?_
    refine lv_icmp_ge (tgt := 30) hx hb dX0_lawInForce_15 (by decide) (fun c5 => ?_) (fun c5 => ?_)
    · replace h := ifT h c5
      refine lv_null hx hb dX0_lawInForce_30 ?_
      obtain rfl := Option.some.inj h
      exact m_rn0 X w hr (Or.inl ⟨_, rfl⟩) hlocks dX0_lawInForce_31
    · replace h := ifF h c5
      refine lv_aload_n hx hb dX0_lawInForce_18 rfl (lv_at hl 0 rfl) ?_
      refine m_get X w o (shn hs 0 rfl) (shk hs 0 rfl : S.2.1 o = 0) ci0 6 (by decide) (fvR (shk hs 0 rfl : S.2.1 o = 0) rfl (shq hs 0 6 rfl rfl : S.2.2.2.1 o 6 = (o + 7) + 1)) rfl fl_X0_32 dX0_lawInForce_19 ?_
      refine lv_aload_n hx hb dX0_lawInForce_22 rfl (lv_at hl 0 rfl) ?_
      refine m_get X w o (shn hs 0 rfl) (shk hs 0 rfl : S.2.1 o = 0) ci0 11 (by decide) (fvI (shk hs 0 rfl : S.2.1 o = 0) rfl) rfl fl_X0_42 dX0_lawInForce_23 ?_
      obtain ⟨g6, h⟩ := cki h
      refine m_aald X w (o + 7) (shn hs 7 rfl) (shk hs 7 rfl : S.2.1 (o + 7) = 15) 5 rfl rfl rfl rfl (shz hs 7 rfl : S.2.2.1 (o + 7) = 6) g6 dX0_lawInForce_26 ?_
      obtain ⟨t7, et7⟩ : ∃ y : Nat, y = V.2.2.2 (o + 7) (V.1 o 11).toNatClampNeg := ⟨_, rfl⟩
      rw [← et7]
      replace h := bdi h _ et7
      cases t7 with
      | zero =>
        replace h := nl0 h
        refine lv_goto (tgt := 31) hx hb dX0_lawInForce_27 (by decide) ?_
        obtain rfl := Option.some.inj h
        exact m_rn0 X w hr (Or.inl ⟨_, rfl⟩) hlocks dX0_lawInForce_31
      | succ q8 =>
        replace h := nls h
        obtain ⟨g9, h⟩ := cgi h
        have hs_q8 := tsh_of g9
        refine lv_goto (tgt := 31) hx hb dX0_lawInForce_27 (by decide) ?_
        obtain rfl := Option.some.inj h
        exact m_rn1 X w hr (Or.inl ⟨_, rfl⟩) hlocks dX0_lawInForce_31
def f_X0_gap_29 (N : Nat) (S : St) (V : Vt) (o : Nat) : Nat → Int32 → Int32 → Int32 → Int32 → Int32 → Int32 → Option Int32
  | 0, _, _, _, _, _, _ => none
  | n + 1, v1, v2, v3, v4, v5, v6 => if (5 : Int32) ≤ v6 then ck ((v1 * (5 : Int32)) + v2) 10 (some ((V.2.1 (o + 3) ((v1 * (5 : Int32)) + v2).toNatClampNeg) - v5)) else ck (v3 + (v6 * v4)) 25 (bd (v5 + (V.2.1 (o + 1) (v3 + (v6 * v4)).toNatClampNeg)) (fun x11 => bd (v6 + (1 : Int32)) (fun x12 => (f_X0_gap_29 N S V o n) v1 v2 v3 v4 x11 x12)))
def f_X0_gap_21 (N : Nat) (S : St) (V : Vt) (o : Nat) (v1 : Int32) (v2 : Int32) (v3 : Int32) (s0 : Int32) : Option Int32 := f_X0_gap_29 N S V o N v1 v2 v3 s0 (0 : Int32) (0 : Int32)
def f_X0_gap_11 (N : Nat) (S : St) (V : Vt) (o : Nat) (v1 : Int32) (v2 : Int32) (s0 : Int32) : Option Int32 := if v1 = 0 then f_X0_gap_21 N S V o v1 v2 s0 (1 : Int32) else f_X0_gap_21 N S V o v1 v2 s0 (5 : Int32)
def f_X0_gap (N : Nat) (S : St) (V : Vt) (o : Nat) (a1 : Int32) (a2 : Int32) : Option Int32 := if a1 = 0 then f_X0_gap_11 N S V o a1 a2 (a2 * (5 : Int32)) else f_X0_gap_11 N S V o a1 a2 a2
set_option maxHeartbeats 4000000 in
set_option maxRecDepth 100000 in
theorem c_X0_gap (l : Launch) (D : va_G) (cy : Nat → ClassId) (ad : Nat → Nat) (A : Nat → Prop) (Kc : State → Prop) (C0 : Cx ad A Kc) (N : Nat) (S : St) (V : Vt) (o : Nat) (hs : shp S o t0) (a1 : Int32) (a2 : Int32) (r : Int32) (h : f_X0_gap N S V o a1 a2 = some r) : Met l yX0_gap (mw yX0_gap cX0_gap 7 (some .int)) { frames := 0, cells := 0, slots := 0, locals := 0 } (PreM D cy ad Kc S V [.ref (ad o), .int a1, .int a2]) (QI D cy ad A r S V) 0 0 A := by
  refine ct_go C0 (own := RX0) rfl (by decide) rfl ?_
  intro p e s m below meth c ls H locs X hr hlocks hnm hl w
  have hx := X.1.1
  have hb := X.1.2.1
  have hown := X.2.1
  have hts := X.2.2.1
  have hl : lv_has ls 7 [(0, .ref (ad o)), (1, .int a1), (2, .int a2)] := hl
  obtain ⟨G, hG⟩ : ∃ G : Nat → Vt → List (Nat × Value) → List Value → Prop, G = fun pc V lv st => ∀ (H : Heap) (locs : List Loc) (ls : Array Slot), Wd D cy ad A s.heap S V H locs → lv_has ls 7 lv → W p l e { frames := 0, cells := 0, slots := 0, locals := 0 } s m ([.ref (ad o), .int a1, .int a2] : List Value).toArray below meth c H locs 0 0 (MQ below (QI D cy ad A r S V) ([.ref (ad o), .int a1, .int a2] : List Value).toArray s 0 0 A) (F0 m pc ls st) := ⟨_, rfl⟩
  have L29 : ∀ (n29 : Nat) (v1 : Int32) (v2 : Int32) (v3 : Int32) (v4 : Int32) (v5 : Int32) (v6 : Int32), f_X0_gap_29 N S V o n29 v1 v2 v3 v4 v5 v6 = some r → G 29 V [(0, .ref (ad o)), (1, .int v1), (2, .int v2), (3, .int v3), (4, .int v4), (5, .int v5), (6, .int v6)] [] := by
    intro n29
    induction n29 with
    | zero => intro v1 v2 v3 v4 v5 v6 h; rw [f_X0_gap_29] at h; cases h
    | succ n29 ih29 =>
      intro v1 v2 v3 v4 v5 v6 h
      rw [hG]
      intro H locs ls w hl
      rw [f_X0_gap_29] at h
      refine lv_iload hx hb dX0_gap_29 (lv_at hl 6 rfl) ?_
      refine lv_iconst (v := 5) hx hb dX0_gap_31 (by decide) ?_
      refine lv_icmp_ge (tgt := 58) hx hb dX0_gap_32 (by decide) (fun c8 => ?_) (fun c8 => ?_)
      · replace h := ifT h c8
        refine lv_aload_n hx hb dX0_gap_58 rfl (lv_at hl 0 rfl) ?_
        refine m_get X w o (shn hs 0 rfl) (shk hs 0 rfl : S.2.1 o = 0) ci0 2 (by decide) (fvR (shk hs 0 rfl : S.2.1 o = 0) rfl (shq hs 0 2 rfl rfl : S.2.2.2.1 o 2 = (o + 3) + 1)) rfl fl_X0_18 dX0_gap_59 ?_
        refine lv_iload_n hx hb dX0_gap_62 rfl (lv_at hl 1 rfl) ?_
        refine lv_iconst (v := 5) hx hb dX0_gap_63 (by decide) ?_
        refine lv_imul hx hb dX0_gap_64 ?_
        refine lv_iload_n hx hb dX0_gap_65 rfl (lv_at hl 2 rfl) ?_
        refine lv_iadd hx hb dX0_gap_66 ?_
        obtain ⟨g9, h⟩ := cki h
        refine m_iald X w (o + 3) (shn hs 3 rfl) (shk hs 3 rfl : S.2.1 (o + 3) = 11) (shz hs 3 rfl : S.2.2.1 (o + 3) = 10) g9 dX0_gap_67 ?_
        refine lv_iload hx hb dX0_gap_68 (lv_at hl 5 rfl) ?_
        refine lv_isub hx hb dX0_gap_70 ?_
        obtain rfl := Option.some.inj h
        exact m_ri X w hr hlocks dX0_gap_71
      · replace h := ifF h c8
        refine lv_iload hx hb dX0_gap_35 (lv_at hl 5 rfl) ?_
        refine lv_aload_n hx hb dX0_gap_37 rfl (lv_at hl 0 rfl) ?_
        refine m_get X w o (shn hs 0 rfl) (shk hs 0 rfl : S.2.1 o = 0) ci0 0 (by decide) (fvR (shk hs 0 rfl : S.2.1 o = 0) rfl (shq hs 0 0 rfl rfl : S.2.2.2.1 o 0 = (o + 1) + 1)) rfl fl_X0_9 dX0_gap_38 ?_
        refine lv_iload_n hx hb dX0_gap_41 rfl (lv_at hl 3 rfl) ?_
        refine lv_iload hx hb dX0_gap_42 (lv_at hl 6 rfl) ?_
        refine lv_iload hx hb dX0_gap_44 (lv_at hl 4 rfl) ?_
        refine lv_imul hx hb dX0_gap_46 ?_
        refine lv_iadd hx hb dX0_gap_47 ?_
        obtain ⟨g10, h⟩ := cki h
        refine m_iald X w (o + 1) (shn hs 1 rfl) (shk hs 1 rfl : S.2.1 (o + 1) = 11) (shz hs 1 rfl : S.2.2.1 (o + 1) = 25) g10 dX0_gap_48 ?_
        refine lv_iadd hx hb dX0_gap_49 ?_
        refine lv_topi (fun x11 ex11 => ?_)
        replace h := bdi h _ ex11
        refine lv_istore (lv' := [(5, .int x11), (0, .ref (ad o)), (1, .int v1), (2, .int v2), (3, .int v3), (4, .int v4), (6, .int v6)]) hx hb dX0_gap_50 hl (by decide) rfl (fun ls hl => ?_)
        obtain ⟨x12, ex12⟩ : ∃ y : Int32, y = v6 + (1 : Int32) := ⟨_, rfl⟩
        replace h := bdi h _ ex12
        refine lv_iinc (v := x12) (lv' := [(6, .int x12), (5, .int x11), (0, .ref (ad o)), (1, .int v1), (2, .int v2), (3, .int v3), (4, .int v4)]) hx hb dX0_gap_52 hl (k := 6) rfl (by rw [ex12]; rfl) (by decide) rfl (fun ls hl => ?_)
        refine lv_goto (tgt := 29) hx hb dX0_gap_55 (by decide) ?_
        have g := ih29 v1 v2 v3 v4 x11 x12 h
        rw [hG] at g
        exact g H locs ls w (lv_sub hl [2, 3, 4, 5, 6, 1, 0] rfl)
  have B21 : ∀ (v1 : Int32) (v2 : Int32) (v3 : Int32) (s0 : Int32), f_X0_gap_21 N S V o v1 v2 v3 s0 = some r → G 21 V [(0, .ref (ad o)), (1, .int v1), (2, .int v2), (3, .int v3)] [.int s0] := by
    intro v1 v2 v3 s0 h
    rw [hG]
    intro H locs ls w hl
    rw [f_X0_gap_21] at h
    refine lv_istore (lv' := [(4, .int s0), (0, .ref (ad o)), (1, .int v1), (2, .int v2), (3, .int v3)]) hx hb dX0_gap_21 hl (by decide) rfl (fun ls hl => ?_)
    refine lv_iconst (v := 0) hx hb dX0_gap_23 (by decide) ?_
    refine lv_istore (lv' := [(5, .int (0 : Int32)), (4, .int s0), (0, .ref (ad o)), (1, .int v1), (2, .int v2), (3, .int v3)]) hx hb dX0_gap_24 hl (by decide) rfl (fun ls hl => ?_)
    refine lv_iconst (v := 0) hx hb dX0_gap_26 (by decide) ?_
    refine lv_istore (lv' := [(6, .int (0 : Int32)), (5, .int (0 : Int32)), (4, .int s0), (0, .ref (ad o)), (1, .int v1), (2, .int v2), (3, .int v3)]) hx hb dX0_gap_27 hl (by decide) rfl (fun ls hl => ?_)
    have g := L29 N v1 v2 v3 s0 (0 : Int32) (0 : Int32) h
    rw [hG] at g
    exact g H locs ls w (lv_sub hl [3, 4, 5, 6, 2, 1, 0] rfl)
  have B11 : ∀ (v1 : Int32) (v2 : Int32) (s0 : Int32), f_X0_gap_11 N S V o v1 v2 s0 = some r → G 11 V [(0, .ref (ad o)), (1, .int v1), (2, .int v2)] [.int s0] := by
    intro v1 v2 s0 h
    rw [hG]
    intro H locs ls w hl
    rw [f_X0_gap_11] at h
    refine lv_istore_n (lv' := [(3, .int s0), (0, .ref (ad o)), (1, .int v1), (2, .int v2)]) hx hb dX0_gap_11 rfl hl (by decide) rfl (fun ls hl => ?_)
    refine lv_iload_n hx hb dX0_gap_12 rfl (lv_at hl 2 rfl) ?_
    refine lv_if_ne (tgt := 20) hx hb dX0_gap_13 (by decide) (fun c7 => ?_) (fun c7 => ?_)
    · replace h := ifF h c7
      refine lv_iconst (v := 5) hx hb dX0_gap_20 (by decide) ?_
      have g := B21 v1 v2 s0 (5 : Int32) h
      rw [hG] at g
      exact g H locs ls w (lv_sub hl [1, 2, 3, 0] rfl)
    · replace h := ifT h c7
      refine lv_iconst (v := 1) hx hb dX0_gap_16 (by decide) ?_
      refine lv_goto (tgt := 21) hx hb dX0_gap_17 (by decide) ?_
      have g := B21 v1 v2 s0 (1 : Int32) h
      rw [hG] at g
      exact g H locs ls w (lv_sub hl [1, 2, 3, 0] rfl)
  rw [f_X0_gap] at h
  refine lv_iload_n hx hb dX0_gap_0 rfl (lv_at hl 1 rfl) ?_
  refine lv_if_ne (tgt := 10) hx hb dX0_gap_1 (by decide) (fun c6 => ?_) (fun c6 => ?_)
  · replace h := ifF h c6
    refine lv_iload_n hx hb dX0_gap_10 rfl (lv_at hl 2 rfl) ?_
    have g := B11 a1 a2 a2 h
    rw [hG] at g
    exact g H locs ls w (lv_sub hl [0, 1, 2] rfl)
  · replace h := ifT h c6
    refine lv_iload_n hx hb dX0_gap_4 rfl (lv_at hl 2 rfl) ?_
    refine lv_iconst (v := 5) hx hb dX0_gap_5 (by decide) ?_
    refine lv_imul hx hb dX0_gap_6 ?_
    refine lv_goto (tgt := 11) hx hb dX0_gap_7 (by decide) ?_
    have g := B11 a1 a2 (a2 * (5 : Int32)) h
    rw [hG] at g
    exact g H locs ls w (lv_sub hl [0, 1, 2] rfl)
def f_X0_turn (N : Nat) (S : St) (V : Vt) (o : Nat) (a1 : Int32) (a2 : Int32) : Option Vt := ck a1 25 (bd (V.2.1 (o + 1) a1.toNatClampNeg) (fun x9 => ck a2 25 (ck a1 25 (bd (sA V (o + 1) a1.toNatClampNeg (V.2.1 (o + 1) a2.toNatClampNeg)) (fun V12 => ck a2 25 (bd (sA V12 (o + 1) a2.toNatClampNeg x9) (fun V14 => some V14)))))))
set_option maxHeartbeats 4000000 in
set_option maxRecDepth 100000 in
theorem c_X0_turn (l : Launch) (D : va_G) (cy : Nat → ClassId) (ad : Nat → Nat) (A : Nat → Prop) (Kc : State → Prop) (C0 : Cx ad A Kc) (N : Nat) (S : St) (V : Vt) (o : Nat) (hs : shp S o t0) (a1 : Int32) (a2 : Int32) (V' : Vt) (h : f_X0_turn N S V o a1 a2 = some V') : Met l yX0_turn (mw yX0_turn cX0_turn 4 none) { frames := 0, cells := 0, slots := 0, locals := 0 } (PreM D cy ad Kc S V [.ref (ad o), .int a1, .int a2]) (QV D cy ad A S V') 0 0 A := by
  refine ct_go C0 (own := RX0) rfl (by decide) rfl ?_
  intro p e s m below meth c ls H locs X hr hlocks hnm hl w
  have hx := X.1.1
  have hb := X.1.2.1
  have hown := X.2.1
  have hts := X.2.2.1
  have hl : lv_has ls 4 [(0, .ref (ad o)), (1, .int a1), (2, .int a2)] := hl
  rw [f_X0_turn] at h
  refine lv_aload_n hx hb dX0_turn_0 rfl (lv_at hl 0 rfl) ?_
  refine m_get X w o (shn hs 0 rfl) (shk hs 0 rfl : S.2.1 o = 0) ci0 0 (by decide) (fvR (shk hs 0 rfl : S.2.1 o = 0) rfl (shq hs 0 0 rfl rfl : S.2.2.2.1 o 0 = (o + 1) + 1)) rfl fl_X0_9 dX0_turn_1 ?_
  refine lv_iload_n hx hb dX0_turn_4 rfl (lv_at hl 1 rfl) ?_
  obtain ⟨g8, h⟩ := cki h
  refine m_iald X w (o + 1) (shn hs 1 rfl) (shk hs 1 rfl : S.2.1 (o + 1) = 11) (shz hs 1 rfl : S.2.2.1 (o + 1) = 25) g8 dX0_turn_5 ?_
  refine lv_topi (fun x9 ex9 => ?_)
  replace h := bdi h _ ex9
  refine lv_istore_n (lv' := [(3, .int x9), (0, .ref (ad o)), (1, .int a1), (2, .int a2)]) hx hb dX0_turn_6 rfl hl (by decide) rfl (fun ls hl => ?_)
  refine lv_aload_n hx hb dX0_turn_7 rfl (lv_at hl 1 rfl) ?_
  refine m_get X w o (shn hs 0 rfl) (shk hs 0 rfl : S.2.1 o = 0) ci0 0 (by decide) (fvR (shk hs 0 rfl : S.2.1 o = 0) rfl (shq hs 0 0 rfl rfl : S.2.2.2.1 o 0 = (o + 1) + 1)) rfl fl_X0_9 dX0_turn_8 ?_
  refine lv_iload_n hx hb dX0_turn_11 rfl (lv_at hl 2 rfl) ?_
  refine lv_aload_n hx hb dX0_turn_12 rfl (lv_at hl 1 rfl) ?_
  refine m_get X w o (shn hs 0 rfl) (shk hs 0 rfl : S.2.1 o = 0) ci0 0 (by decide) (fvR (shk hs 0 rfl : S.2.1 o = 0) rfl (shq hs 0 0 rfl rfl : S.2.2.2.1 o 0 = (o + 1) + 1)) rfl fl_X0_9 dX0_turn_13 ?_
  refine lv_iload_n hx hb dX0_turn_16 rfl (lv_at hl 3 rfl) ?_
  obtain ⟨g10, h⟩ := cki h
  refine m_iald X w (o + 1) (shn hs 1 rfl) (shk hs 1 rfl : S.2.1 (o + 1) = 11) (shz hs 1 rfl : S.2.2.1 (o + 1) = 25) g10 dX0_turn_17 ?_
  obtain ⟨g11, h⟩ := cki h
  refine m_iast X w (o + 1) (shn hs 1 rfl) (shk hs 1 rfl : S.2.1 (o + 1) = 11) (shz hs 1 rfl : S.2.2.1 (o + 1) = 25) g11 dX0_turn_18 (fun V12 H locs eV12 w => ?_)
  replace h := bdi h _ eV12
  refine lv_aload_n hx hb dX0_turn_19 rfl (lv_at hl 1 rfl) ?_
  refine m_get X w o (shn hs 0 rfl) (shk hs 0 rfl : S.2.1 o = 0) ci0 0 (by decide) (fvR (shk hs 0 rfl : S.2.1 o = 0) rfl (shq hs 0 0 rfl rfl : S.2.2.2.1 o 0 = (o + 1) + 1)) rfl fl_X0_9 dX0_turn_20 ?_
  refine lv_iload_n hx hb dX0_turn_23 rfl (lv_at hl 3 rfl) ?_
  refine lv_iload_n hx hb dX0_turn_24 rfl (lv_at hl 0 rfl) ?_
  obtain ⟨g13, h⟩ := cki h
  refine m_iast X w (o + 1) (shn hs 1 rfl) (shk hs 1 rfl : S.2.1 (o + 1) = 11) (shz hs 1 rfl : S.2.2.1 (o + 1) = 25) g13 dX0_turn_25 (fun V14 H locs eV14 w => ?_)
  replace h := bdi h _ eV14
  obtain rfl := Option.some.inj h
  exact m_rv X w hr hlocks dX0_turn_26
def f_X0_nextDay (N : Nat) (S : St) (V : Vt) (o : Nat) : Option (Int32 × Vt) := ck (0 : Int32) 3 (if (V.2.1 (o + 6) (0 : Int32).toNatClampNeg) < (999 : Int32) then ck (0 : Int32) 3 (ck (0 : Int32) 3 (bd (sA V (o + 6) (0 : Int32).toNatClampNeg ((V.2.1 (o + 6) (0 : Int32).toNatClampNeg) + (1 : Int32))) (fun V10 => ck (0 : Int32) 3 (some (V10.2.1 (o + 6) (0 : Int32).toNatClampNeg, V10))))) else some ((-3 : Int32), V))
set_option maxHeartbeats 4000000 in
set_option maxRecDepth 100000 in
theorem c_X0_nextDay (l : Launch) (D : va_G) (cy : Nat → ClassId) (ad : Nat → Nat) (A : Nat → Prop) (Kc : State → Prop) (C0 : Cx ad A Kc) (N : Nat) (S : St) (V : Vt) (o : Nat) (hs : shp S o t0) (r : Int32) (V' : Vt) (h : f_X0_nextDay N S V o = some (r, V')) : Met l yX0_nextDay (mw yX0_nextDay cX0_nextDay 1 (some .int)) { frames := 0, cells := 0, slots := 0, locals := 0 } (PreM D cy ad Kc S V [.ref (ad o)]) (QI D cy ad A r S V') 0 0 A := by
  refine ct_go C0 (own := RX0) rfl (by decide) rfl ?_
  intro p e s m below meth c ls H locs X hr hlocks hnm hl w
  have hx := X.1.1
  have hb := X.1.2.1
  have hown := X.2.1
  have hts := X.2.2.1
  have hl : lv_has ls 1 [(0, .ref (ad o))] := hl
  rw [f_X0_nextDay] at h
  refine lv_aload_n hx hb dX0_nextDay_0 rfl (lv_at hl 0 rfl) ?_
  refine m_get X w o (shn hs 0 rfl) (shk hs 0 rfl : S.2.1 o = 0) ci0 5 (by decide) (fvR (shk hs 0 rfl : S.2.1 o = 0) rfl (shq hs 0 5 rfl rfl : S.2.2.2.1 o 5 = (o + 6) + 1)) rfl fl_X0_27 dX0_nextDay_1 ?_
  refine lv_iconst (v := 0) hx hb dX0_nextDay_4 (by decide) ?_
  obtain ⟨g6, h⟩ := cki h
  refine m_iald X w (o + 6) (shn hs 6 rfl) (shk hs 6 rfl : S.2.1 (o + 6) = 11) (shz hs 6 rfl : S.2.2.1 (o + 6) = 3) g6 dX0_nextDay_5 ?_
  refine lv_sipush (v := 999) hx hb dX0_nextDay_6 (by decide) ?_
  refine lv_icmp_lt (tgt := 15) hx hb dX0_nextDay_9 (by decide) (fun c7 => ?_) (fun c7 => ?_)
  · replace h := ifT h c7
    refine lv_aload_n hx hb dX0_nextDay_15 rfl (lv_at hl 0 rfl) ?_
    refine m_get X w o (shn hs 0 rfl) (shk hs 0 rfl : S.2.1 o = 0) ci0 5 (by decide) (fvR (shk hs 0 rfl : S.2.1 o = 0) rfl (shq hs 0 5 rfl rfl : S.2.2.2.1 o 5 = (o + 6) + 1)) rfl fl_X0_27 dX0_nextDay_16 ?_
    refine lv_iconst (v := 0) hx hb dX0_nextDay_19 (by decide) ?_
    refine lv_dup2_11 hx hb dX0_nextDay_20 rfl rfl ?_
    obtain ⟨g8, h⟩ := cki h
    refine m_iald X w (o + 6) (shn hs 6 rfl) (shk hs 6 rfl : S.2.1 (o + 6) = 11) (shz hs 6 rfl : S.2.2.1 (o + 6) = 3) g8 dX0_nextDay_21 ?_
    refine lv_iconst (v := 1) hx hb dX0_nextDay_22 (by decide) ?_
    refine lv_iadd hx hb dX0_nextDay_23 ?_
    obtain ⟨g9, h⟩ := cki h
    refine m_iast X w (o + 6) (shn hs 6 rfl) (shk hs 6 rfl : S.2.1 (o + 6) = 11) (shz hs 6 rfl : S.2.2.1 (o + 6) = 3) g9 dX0_nextDay_24 (fun V10 H locs eV10 w => ?_)
    replace h := bdi h _ eV10
    refine lv_aload_n hx hb dX0_nextDay_25 rfl (lv_at hl 0 rfl) ?_
    refine m_get X w o (shn hs 0 rfl) (shk hs 0 rfl : S.2.1 o = 0) ci0 5 (by decide) (fvR (shk hs 0 rfl : S.2.1 o = 0) rfl (shq hs 0 5 rfl rfl : S.2.2.2.1 o 5 = (o + 6) + 1)) rfl fl_X0_27 dX0_nextDay_26 ?_
    refine lv_iconst (v := 0) hx hb dX0_nextDay_29 (by decide) ?_
    obtain ⟨g11, h⟩ := cki h
    refine m_iald X w (o + 6) (shn hs 6 rfl) (shk hs 6 rfl : S.2.1 (o + 6) = 11) (shz hs 6 rfl : S.2.2.1 (o + 6) = 3) g11 dX0_nextDay_30 ?_
    obtain ⟨rfl, rfl⟩ := reti h
    exact m_ri X w hr hlocks dX0_nextDay_31
  · replace h := ifF h c7
    refine lv_bipush (v := (-3)) hx hb dX0_nextDay_12 (by decide) ?_
    obtain ⟨rfl, rfl⟩ := reti h
    exact m_ri X w hr hlocks dX0_nextDay_14
def f_X0_fenceCount_4 (N : Nat) (S : St) (V : Vt) (o : Nat) : Nat → Int32 → Int32 → Option Int32
  | 0, _, _ => none
  | n + 1, v1, v2 => if (25 : Int32) ≤ v2 then some v1 else ck v2 25 (bd (v1 + (V.2.1 (o + 2) v2.toNatClampNeg)) (fun x6 => bd (v2 + (1 : Int32)) (fun x7 => (f_X0_fenceCount_4 N S V o n) x6 x7)))
def f_X0_fenceCount (N : Nat) (S : St) (V : Vt) (o : Nat) : Option Int32 := f_X0_fenceCount_4 N S V o N (0 : Int32) (0 : Int32)
set_option maxHeartbeats 4000000 in
set_option maxRecDepth 100000 in
theorem c_X0_fenceCount (l : Launch) (D : va_G) (cy : Nat → ClassId) (ad : Nat → Nat) (A : Nat → Prop) (Kc : State → Prop) (C0 : Cx ad A Kc) (N : Nat) (S : St) (V : Vt) (o : Nat) (hs : shp S o t0) (r : Int32) (h : f_X0_fenceCount N S V o = some r) : Met l yX0_fenceCount (mw yX0_fenceCount cX0_fenceCount 3 (some .int)) { frames := 0, cells := 0, slots := 0, locals := 0 } (PreM D cy ad Kc S V [.ref (ad o)]) (QI D cy ad A r S V) 0 0 A := by
  refine ct_go C0 (own := RX0) rfl (by decide) rfl ?_
  intro p e s m below meth c ls H locs X hr hlocks hnm hl w
  have hx := X.1.1
  have hb := X.1.2.1
  have hown := X.2.1
  have hts := X.2.2.1
  have hl : lv_has ls 3 [(0, .ref (ad o))] := hl
  obtain ⟨G, hG⟩ : ∃ G : Nat → Vt → List (Nat × Value) → List Value → Prop, G = fun pc V lv st => ∀ (H : Heap) (locs : List Loc) (ls : Array Slot), Wd D cy ad A s.heap S V H locs → lv_has ls 3 lv → W p l e { frames := 0, cells := 0, slots := 0, locals := 0 } s m ([.ref (ad o)] : List Value).toArray below meth c H locs 0 0 (MQ below (QI D cy ad A r S V) ([.ref (ad o)] : List Value).toArray s 0 0 A) (F0 m pc ls st) := ⟨_, rfl⟩
  have L4 : ∀ (n4 : Nat) (v1 : Int32) (v2 : Int32), f_X0_fenceCount_4 N S V o n4 v1 v2 = some r → G 4 V [(0, .ref (ad o)), (1, .int v1), (2, .int v2)] [] := by
    intro n4
    induction n4 with
    | zero => intro v1 v2 h; rw [f_X0_fenceCount_4] at h; cases h
    | succ n4 ih4 =>
      intro v1 v2 h
      rw [hG]
      intro H locs ls w hl
      rw [f_X0_fenceCount_4] at h
      refine lv_iload_n hx hb dX0_fenceCount_4 rfl (lv_at hl 2 rfl) ?_
      refine lv_bipush (v := 25) hx hb dX0_fenceCount_5 (by decide) ?_
      refine lv_icmp_ge (tgt := 25) hx hb dX0_fenceCount_7 (by decide) (fun c4 => ?_) (fun c4 => ?_)
      · replace h := ifT h c4
        refine lv_iload_n hx hb dX0_fenceCount_25 rfl (lv_at hl 1 rfl) ?_
        obtain rfl := Option.some.inj h
        exact m_ri X w hr hlocks dX0_fenceCount_26
      · replace h := ifF h c4
        refine lv_iload_n hx hb dX0_fenceCount_10 rfl (lv_at hl 1 rfl) ?_
        refine lv_aload_n hx hb dX0_fenceCount_11 rfl (lv_at hl 0 rfl) ?_
        refine m_get X w o (shn hs 0 rfl) (shk hs 0 rfl : S.2.1 o = 0) ci0 1 (by decide) (fvR (shk hs 0 rfl : S.2.1 o = 0) rfl (shq hs 0 1 rfl rfl : S.2.2.2.1 o 1 = (o + 2) + 1)) rfl fl_X0_15 dX0_fenceCount_12 ?_
        refine lv_iload_n hx hb dX0_fenceCount_15 rfl (lv_at hl 2 rfl) ?_
        obtain ⟨g5, h⟩ := cki h
        refine m_iald X w (o + 2) (shn hs 2 rfl) (shk hs 2 rfl : S.2.1 (o + 2) = 11) (shz hs 2 rfl : S.2.2.1 (o + 2) = 25) g5 dX0_fenceCount_16 ?_
        refine lv_iadd hx hb dX0_fenceCount_17 ?_
        refine lv_topi (fun x6 ex6 => ?_)
        replace h := bdi h _ ex6
        refine lv_istore_n (lv' := [(1, .int x6), (0, .ref (ad o)), (2, .int v2)]) hx hb dX0_fenceCount_18 rfl hl (by decide) rfl (fun ls hl => ?_)
        obtain ⟨x7, ex7⟩ : ∃ y : Int32, y = v2 + (1 : Int32) := ⟨_, rfl⟩
        replace h := bdi h _ ex7
        refine lv_iinc (v := x7) (lv' := [(2, .int x7), (1, .int x6), (0, .ref (ad o))]) hx hb dX0_fenceCount_19 hl (k := 2) rfl (by rw [ex7]; rfl) (by decide) rfl (fun ls hl => ?_)
        refine lv_goto (tgt := 4) hx hb dX0_fenceCount_22 (by decide) ?_
        have g := ih4 x6 x7 h
        rw [hG] at g
        exact g H locs ls w (lv_sub hl [2, 1, 0] rfl)
  rw [f_X0_fenceCount] at h
  refine lv_iconst (v := 0) hx hb dX0_fenceCount_0 (by decide) ?_
  refine lv_istore_n (lv' := [(1, .int (0 : Int32)), (0, .ref (ad o))]) hx hb dX0_fenceCount_1 rfl hl (by decide) rfl (fun ls hl => ?_)
  refine lv_iconst (v := 0) hx hb dX0_fenceCount_2 (by decide) ?_
  refine lv_istore_n (lv' := [(2, .int (0 : Int32)), (1, .int (0 : Int32)), (0, .ref (ad o))]) hx hb dX0_fenceCount_3 rfl hl (by decide) rfl (fun ls hl => ?_)
  have g := L4 N (0 : Int32) (0 : Int32) h
  rw [hG] at g
  exact g H locs ls w (lv_sub hl [2, 1, 0] rfl)
def f_X0_bookedOutOf_58 (N : Nat) (S : St) (V : Vt) (o : Nat) (K4 : Int32 → Int32 → Int32 → Option Int32) (v1 : Int32) (v2 : Int32) (v3 : Int32) : Option Int32 := bd (v3 + (1 : Int32)) (fun x9 => K4 v1 v2 x9)
def f_X0_bookedOutOf_4 (N : Nat) (S : St) (V : Vt) (o : Nat) : Nat → Int32 → Int32 → Int32 → Option Int32
  | 0, _, _, _ => none
  | n + 1, v1, v2, v3 => if (V.1 o 13) ≤ v3 then some v2 else ck ((3 : Int32) * v3) 30 (if ((v1 >>> ((V.2.1 (o + 9) ((3 : Int32) * v3).toNatClampNeg) &&& 31)) &&& (1 : Int32)) = (1 : Int32) then ck (((3 : Int32) * v3) + (1 : Int32)) 30 (if ((v1 >>> ((V.2.1 (o + 9) (((3 : Int32) * v3) + (1 : Int32)).toNatClampNeg) &&& 31)) &&& (1 : Int32)) = 0 then ck (((3 : Int32) * v3) + (2 : Int32)) 30 (bd (v2 + (V.2.1 (o + 9) (((3 : Int32) * v3) + (2 : Int32)).toNatClampNeg)) (fun x13 => f_X0_bookedOutOf_58 N S V o (f_X0_bookedOutOf_4 N S V o n) v1 x13 v3)) else f_X0_bookedOutOf_58 N S V o (f_X0_bookedOutOf_4 N S V o n) v1 v2 v3) else f_X0_bookedOutOf_58 N S V o (f_X0_bookedOutOf_4 N S V o n) v1 v2 v3)
def f_X0_bookedOutOf (N : Nat) (S : St) (V : Vt) (o : Nat) (a1 : Int32) : Option Int32 := f_X0_bookedOutOf_4 N S V o N a1 (0 : Int32) (0 : Int32)
set_option maxHeartbeats 4000000 in
set_option maxRecDepth 100000 in
theorem c_X0_bookedOutOf (l : Launch) (D : va_G) (cy : Nat → ClassId) (ad : Nat → Nat) (A : Nat → Prop) (Kc : State → Prop) (C0 : Cx ad A Kc) (N : Nat) (S : St) (V : Vt) (o : Nat) (hs : shp S o t0) (a1 : Int32) (r : Int32) (h : f_X0_bookedOutOf N S V o a1 = some r) : Met l yX0_bookedOutOf (mw yX0_bookedOutOf cX0_bookedOutOf 4 (some .int)) { frames := 0, cells := 0, slots := 0, locals := 0 } (PreM D cy ad Kc S V [.ref (ad o), .int a1]) (QI D cy ad A r S V) 0 0 A := by
  refine ct_go C0 (own := RX0) rfl (by decide) rfl ?_
  intro p e s m below meth c ls H locs X hr hlocks hnm hl w
  have hx := X.1.1
  have hb := X.1.2.1
  have hown := X.2.1
  have hts := X.2.2.1
  have hl : lv_has ls 4 [(0, .ref (ad o)), (1, .int a1)] := hl
  obtain ⟨G, hG⟩ : ∃ G : Nat → Vt → List (Nat × Value) → List Value → Prop, G = fun pc V lv st => ∀ (H : Heap) (locs : List Loc) (ls : Array Slot), Wd D cy ad A s.heap S V H locs → lv_has ls 4 lv → W p l e { frames := 0, cells := 0, slots := 0, locals := 0 } s m ([.ref (ad o), .int a1] : List Value).toArray below meth c H locs 0 0 (MQ below (QI D cy ad A r S V) ([.ref (ad o), .int a1] : List Value).toArray s 0 0 A) (F0 m pc ls st) := ⟨_, rfl⟩
  have L4 : ∀ (n4 : Nat) (v1 : Int32) (v2 : Int32) (v3 : Int32), f_X0_bookedOutOf_4 N S V o n4 v1 v2 v3 = some r → G 4 V [(0, .ref (ad o)), (1, .int v1), (2, .int v2), (3, .int v3)] [] := by
    intro n4
    induction n4 with
    | zero => intro v1 v2 v3 h; rw [f_X0_bookedOutOf_4] at h; cases h
    | succ n4 ih4 =>
      have B58 : ∀ (v1 : Int32) (v2 : Int32) (v3 : Int32), f_X0_bookedOutOf_58 N S V o (f_X0_bookedOutOf_4 N S V o n4) v1 v2 v3 = some r → G 58 V [(0, .ref (ad o)), (1, .int v1), (2, .int v2), (3, .int v3)] [] := by
        intro v1 v2 v3 h
        rw [hG]
        intro H locs ls w hl
        rw [f_X0_bookedOutOf_58] at h
        obtain ⟨x9, ex9⟩ : ∃ y : Int32, y = v3 + (1 : Int32) := ⟨_, rfl⟩
        replace h := bdi h _ ex9
        refine lv_iinc (v := x9) (lv' := [(3, .int x9), (0, .ref (ad o)), (1, .int v1), (2, .int v2)]) hx hb dX0_bookedOutOf_58 hl (k := 3) rfl (by rw [ex9]; rfl) (by decide) rfl (fun ls hl => ?_)
        refine lv_goto (tgt := 4) hx hb dX0_bookedOutOf_61 (by decide) ?_
        have g := ih4 v1 v2 x9 h
        rw [hG] at g
        exact g H locs ls w (lv_sub hl [1, 2, 3, 0] rfl)
      intro v1 v2 v3 h
      rw [hG]
      intro H locs ls w hl
      rw [f_X0_bookedOutOf_4] at h
      refine lv_iload_n hx hb dX0_bookedOutOf_4 rfl (lv_at hl 3 rfl) ?_
      refine lv_aload_n hx hb dX0_bookedOutOf_5 rfl (lv_at hl 0 rfl) ?_
      refine m_get X w o (shn hs 0 rfl) (shk hs 0 rfl : S.2.1 o = 0) ci0 13 (by decide) (fvI (shk hs 0 rfl : S.2.1 o = 0) rfl) rfl fl_X0_61 dX0_bookedOutOf_6 ?_
      refine lv_icmp_ge (tgt := 64) hx hb dX0_bookedOutOf_9 (by decide) (fun c6 => ?_) (fun c6 => ?_)
      · replace h := ifT h c6
        refine lv_iload_n hx hb dX0_bookedOutOf_64 rfl (lv_at hl 2 rfl) ?_
        obtain rfl := Option.some.inj h
        exact m_ri X w hr hlocks dX0_bookedOutOf_65
      · replace h := ifF h c6
        refine lv_iload_n hx hb dX0_bookedOutOf_12 rfl (lv_at hl 1 rfl) ?_
        refine lv_aload_n hx hb dX0_bookedOutOf_13 rfl (lv_at hl 0 rfl) ?_
        refine m_get X w o (shn hs 0 rfl) (shk hs 0 rfl : S.2.1 o = 0) ci0 8 (by decide) (fvR (shk hs 0 rfl : S.2.1 o = 0) rfl (shq hs 0 8 rfl rfl : S.2.2.2.1 o 8 = (o + 9) + 1)) rfl fl_X0_39 dX0_bookedOutOf_14 ?_
        refine lv_iconst (v := 3) hx hb dX0_bookedOutOf_17 (by decide) ?_
        refine lv_iload_n hx hb dX0_bookedOutOf_18 rfl (lv_at hl 3 rfl) ?_
        refine lv_imul hx hb dX0_bookedOutOf_19 ?_
        obtain ⟨g7, h⟩ := cki h
        refine m_iald X w (o + 9) (shn hs 9 rfl) (shk hs 9 rfl : S.2.1 (o + 9) = 11) (shz hs 9 rfl : S.2.2.1 (o + 9) = 30) g7 dX0_bookedOutOf_20 ?_
        refine lv_ishr hx hb dX0_bookedOutOf_21 ?_
        refine lv_iconst (v := 1) hx hb dX0_bookedOutOf_22 (by decide) ?_
        refine lv_iand hx hb dX0_bookedOutOf_23 ?_
        refine lv_iconst (v := 1) hx hb dX0_bookedOutOf_24 (by decide) ?_
        refine lv_icmp_ne (tgt := 58) hx hb dX0_bookedOutOf_25 (by decide) (fun c8 => ?_) (fun c8 => ?_)
        · replace h := ifF h c8
          have g := B58 v1 v2 v3 h
          rw [hG] at g
          exact g H locs ls w (lv_sub hl [0, 1, 2, 3] rfl)
        · replace h := ifT h c8
          refine lv_iload_n hx hb dX0_bookedOutOf_28 rfl (lv_at hl 1 rfl) ?_
          refine lv_aload_n hx hb dX0_bookedOutOf_29 rfl (lv_at hl 0 rfl) ?_
          refine m_get X w o (shn hs 0 rfl) (shk hs 0 rfl : S.2.1 o = 0) ci0 8 (by decide) (fvR (shk hs 0 rfl : S.2.1 o = 0) rfl (shq hs 0 8 rfl rfl : S.2.2.2.1 o 8 = (o + 9) + 1)) rfl fl_X0_39 dX0_bookedOutOf_30 ?_
          refine lv_iconst (v := 3) hx hb dX0_bookedOutOf_33 (by decide) ?_
          refine lv_iload_n hx hb dX0_bookedOutOf_34 rfl (lv_at hl 3 rfl) ?_
          refine lv_imul hx hb dX0_bookedOutOf_35 ?_
          refine lv_iconst (v := 1) hx hb dX0_bookedOutOf_36 (by decide) ?_
          refine lv_iadd hx hb dX0_bookedOutOf_37 ?_
          obtain ⟨g10, h⟩ := cki h
          refine m_iald X w (o + 9) (shn hs 9 rfl) (shk hs 9 rfl : S.2.1 (o + 9) = 11) (shz hs 9 rfl : S.2.2.1 (o + 9) = 30) g10 dX0_bookedOutOf_38 ?_
          refine lv_ishr hx hb dX0_bookedOutOf_39 ?_
          refine lv_iconst (v := 1) hx hb dX0_bookedOutOf_40 (by decide) ?_
          refine lv_iand hx hb dX0_bookedOutOf_41 ?_
          refine lv_if_ne (tgt := 58) hx hb dX0_bookedOutOf_42 (by decide) (fun c11 => ?_) (fun c11 => ?_)
          · replace h := ifF h c11
            have g := B58 v1 v2 v3 h
            rw [hG] at g
            exact g H locs ls w (lv_sub hl [0, 1, 2, 3] rfl)
          · replace h := ifT h c11
            refine lv_iload_n hx hb dX0_bookedOutOf_45 rfl (lv_at hl 2 rfl) ?_
            refine lv_aload_n hx hb dX0_bookedOutOf_46 rfl (lv_at hl 0 rfl) ?_
            refine m_get X w o (shn hs 0 rfl) (shk hs 0 rfl : S.2.1 o = 0) ci0 8 (by decide) (fvR (shk hs 0 rfl : S.2.1 o = 0) rfl (shq hs 0 8 rfl rfl : S.2.2.2.1 o 8 = (o + 9) + 1)) rfl fl_X0_39 dX0_bookedOutOf_47 ?_
            refine lv_iconst (v := 3) hx hb dX0_bookedOutOf_50 (by decide) ?_
            refine lv_iload_n hx hb dX0_bookedOutOf_51 rfl (lv_at hl 3 rfl) ?_
            refine lv_imul hx hb dX0_bookedOutOf_52 ?_
            refine lv_iconst (v := 2) hx hb dX0_bookedOutOf_53 (by decide) ?_
            refine lv_iadd hx hb dX0_bookedOutOf_54 ?_
            obtain ⟨g12, h⟩ := cki h
            refine m_iald X w (o + 9) (shn hs 9 rfl) (shk hs 9 rfl : S.2.1 (o + 9) = 11) (shz hs 9 rfl : S.2.2.1 (o + 9) = 30) g12 dX0_bookedOutOf_55 ?_
            refine lv_iadd hx hb dX0_bookedOutOf_56 ?_
            refine lv_topi (fun x13 ex13 => ?_)
            replace h := bdi h _ ex13
            refine lv_istore_n (lv' := [(2, .int x13), (0, .ref (ad o)), (1, .int v1), (3, .int v3)]) hx hb dX0_bookedOutOf_57 rfl hl (by decide) rfl (fun ls hl => ?_)
            have g := B58 v1 x13 v3 h
            rw [hG] at g
            exact g H locs ls w (lv_sub hl [1, 2, 0, 3] rfl)
  rw [f_X0_bookedOutOf] at h
  refine lv_iconst (v := 0) hx hb dX0_bookedOutOf_0 (by decide) ?_
  refine lv_istore_n (lv' := [(2, .int (0 : Int32)), (0, .ref (ad o)), (1, .int a1)]) hx hb dX0_bookedOutOf_1 rfl hl (by decide) rfl (fun ls hl => ?_)
  refine lv_iconst (v := 0) hx hb dX0_bookedOutOf_2 (by decide) ?_
  refine lv_istore_n (lv' := [(3, .int (0 : Int32)), (2, .int (0 : Int32)), (0, .ref (ad o)), (1, .int a1)]) hx hb dX0_bookedOutOf_3 rfl hl (by decide) rfl (fun ls hl => ?_)
  have g := L4 N a1 (0 : Int32) (0 : Int32) h
  rw [hG] at g
  exact g H locs ls w (lv_sub hl [2, 3, 1, 0] rfl)
def f_X0_balanceOf_67 (N : Nat) (S : St) (V : Vt) (o : Nat) (K4 : Int32 → Int32 → Int32 → Option Int32) (v1 : Int32) (v2 : Int32) (v3 : Int32) : Option Int32 := bd (v3 + (1 : Int32)) (fun x13 => K4 v1 v2 x13)
def f_X0_balanceOf_4 (N : Nat) (S : St) (V : Vt) (o : Nat) : Nat → Int32 → Int32 → Int32 → Option Int32
  | 0, _, _, _ => none
  | n + 1, v1, v2, v3 => if (V.1 o 13) ≤ v3 then some v2 else ck ((3 : Int32) * v3) 30 (if (V.2.1 (o + 9) ((3 : Int32) * v3).toNatClampNeg) = v1 then ck (((3 : Int32) * v3) + (2 : Int32)) 30 (bd (v2 + (V.2.1 (o + 9) (((3 : Int32) * v3) + (2 : Int32)).toNatClampNeg)) (fun x17 => f_X0_balanceOf_67 N S V o (f_X0_balanceOf_4 N S V o n) v1 x17 v3)) else ck (((3 : Int32) * v3) + (1 : Int32)) 30 (if (V.2.1 (o + 9) (((3 : Int32) * v3) + (1 : Int32)).toNatClampNeg) = v1 then ck (((3 : Int32) * v3) + (2 : Int32)) 30 (bd (v2 - (V.2.1 (o + 9) (((3 : Int32) * v3) + (2 : Int32)).toNatClampNeg)) (fun x15 => f_X0_balanceOf_67 N S V o (f_X0_balanceOf_4 N S V o n) v1 x15 v3)) else f_X0_balanceOf_67 N S V o (f_X0_balanceOf_4 N S V o n) v1 v2 v3))
def f_X0_balanceOf (N : Nat) (S : St) (V : Vt) (o : Nat) (a1 : Int32) : Option Int32 := f_X0_balanceOf_4 N S V o N a1 (0 : Int32) (0 : Int32)
set_option maxHeartbeats 4000000 in
set_option maxRecDepth 100000 in
theorem c_X0_balanceOf (l : Launch) (D : va_G) (cy : Nat → ClassId) (ad : Nat → Nat) (A : Nat → Prop) (Kc : State → Prop) (C0 : Cx ad A Kc) (N : Nat) (S : St) (V : Vt) (o : Nat) (hs : shp S o t0) (a1 : Int32) (r : Int32) (h : f_X0_balanceOf N S V o a1 = some r) : Met l yX0_balanceOf (mw yX0_balanceOf cX0_balanceOf 4 (some .int)) { frames := 0, cells := 0, slots := 0, locals := 0 } (PreM D cy ad Kc S V [.ref (ad o), .int a1]) (QI D cy ad A r S V) 0 0 A := by
  refine ct_go C0 (own := RX0) rfl (by decide) rfl ?_
  intro p e s m below meth c ls H locs X hr hlocks hnm hl w
  have hx := X.1.1
  have hb := X.1.2.1
  have hown := X.2.1
  have hts := X.2.2.1
  have hl : lv_has ls 4 [(0, .ref (ad o)), (1, .int a1)] := hl
  obtain ⟨G, hG⟩ : ∃ G : Nat → Vt → List (Nat × Value) → List Value → Prop, G = fun pc V lv st => ∀ (H : Heap) (locs : List Loc) (ls : Array Slot), Wd D cy ad A s.heap S V H locs → lv_has ls 4 lv → W p l e { frames := 0, cells := 0, slots := 0, locals := 0 } s m ([.ref (ad o), .int a1] : List Value).toArray below meth c H locs 0 0 (MQ below (QI D cy ad A r S V) ([.ref (ad o), .int a1] : List Value).toArray s 0 0 A) (F0 m pc ls st) := ⟨_, rfl⟩
  have L4 : ∀ (n4 : Nat) (v1 : Int32) (v2 : Int32) (v3 : Int32), f_X0_balanceOf_4 N S V o n4 v1 v2 v3 = some r → G 4 V [(0, .ref (ad o)), (1, .int v1), (2, .int v2), (3, .int v3)] [] := by
    intro n4
    induction n4 with
    | zero => intro v1 v2 v3 h; rw [f_X0_balanceOf_4] at h; cases h
    | succ n4 ih4 =>
      have B67 : ∀ (v1 : Int32) (v2 : Int32) (v3 : Int32), f_X0_balanceOf_67 N S V o (f_X0_balanceOf_4 N S V o n4) v1 v2 v3 = some r → G 67 V [(0, .ref (ad o)), (1, .int v1), (2, .int v2), (3, .int v3)] [] := by
        intro v1 v2 v3 h
        rw [hG]
        intro H locs ls w hl
        rw [f_X0_balanceOf_67] at h
        obtain ⟨x13, ex13⟩ : ∃ y : Int32, y = v3 + (1 : Int32) := ⟨_, rfl⟩
        replace h := bdi h _ ex13
        refine lv_iinc (v := x13) (lv' := [(3, .int x13), (0, .ref (ad o)), (1, .int v1), (2, .int v2)]) hx hb dX0_balanceOf_67 hl (k := 3) rfl (by rw [ex13]; rfl) (by decide) rfl (fun ls hl => ?_)
        refine lv_goto (tgt := 4) hx hb dX0_balanceOf_70 (by decide) ?_
        have g := ih4 v1 v2 x13 h
        rw [hG] at g
        exact g H locs ls w (lv_sub hl [1, 2, 3, 0] rfl)
      intro v1 v2 v3 h
      rw [hG]
      intro H locs ls w hl
      rw [f_X0_balanceOf_4] at h
      refine lv_iload_n hx hb dX0_balanceOf_4 rfl (lv_at hl 3 rfl) ?_
      refine lv_aload_n hx hb dX0_balanceOf_5 rfl (lv_at hl 0 rfl) ?_
      refine m_get X w o (shn hs 0 rfl) (shk hs 0 rfl : S.2.1 o = 0) ci0 13 (by decide) (fvI (shk hs 0 rfl : S.2.1 o = 0) rfl) rfl fl_X0_61 dX0_balanceOf_6 ?_
      refine lv_icmp_ge (tgt := 73) hx hb dX0_balanceOf_9 (by decide) (fun c8 => ?_) (fun c8 => ?_)
      · replace h := ifT h c8
        refine lv_iload_n hx hb dX0_balanceOf_73 rfl (lv_at hl 2 rfl) ?_
        obtain rfl := Option.some.inj h
        exact m_ri X w hr hlocks dX0_balanceOf_74
      · replace h := ifF h c8
        refine lv_aload_n hx hb dX0_balanceOf_12 rfl (lv_at hl 0 rfl) ?_
        refine m_get X w o (shn hs 0 rfl) (shk hs 0 rfl : S.2.1 o = 0) ci0 8 (by decide) (fvR (shk hs 0 rfl : S.2.1 o = 0) rfl (shq hs 0 8 rfl rfl : S.2.2.2.1 o 8 = (o + 9) + 1)) rfl fl_X0_39 dX0_balanceOf_13 ?_
        refine lv_iconst (v := 3) hx hb dX0_balanceOf_16 (by decide) ?_
        refine lv_iload_n hx hb dX0_balanceOf_17 rfl (lv_at hl 3 rfl) ?_
        refine lv_imul hx hb dX0_balanceOf_18 ?_
        obtain ⟨g9, h⟩ := cki h
        refine m_iald X w (o + 9) (shn hs 9 rfl) (shk hs 9 rfl : S.2.1 (o + 9) = 11) (shz hs 9 rfl : S.2.2.1 (o + 9) = 30) g9 dX0_balanceOf_19 ?_
        refine lv_iload_n hx hb dX0_balanceOf_20 rfl (lv_at hl 1 rfl) ?_
        refine lv_icmp_ne (tgt := 40) hx hb dX0_balanceOf_21 (by decide) (fun c10 => ?_) (fun c10 => ?_)
        · replace h := ifF h c10
          refine lv_aload_n hx hb dX0_balanceOf_40 rfl (lv_at hl 0 rfl) ?_
          refine m_get X w o (shn hs 0 rfl) (shk hs 0 rfl : S.2.1 o = 0) ci0 8 (by decide) (fvR (shk hs 0 rfl : S.2.1 o = 0) rfl (shq hs 0 8 rfl rfl : S.2.2.2.1 o 8 = (o + 9) + 1)) rfl fl_X0_39 dX0_balanceOf_41 ?_
          refine lv_iconst (v := 3) hx hb dX0_balanceOf_44 (by decide) ?_
          refine lv_iload_n hx hb dX0_balanceOf_45 rfl (lv_at hl 3 rfl) ?_
          refine lv_imul hx hb dX0_balanceOf_46 ?_
          refine lv_iconst (v := 1) hx hb dX0_balanceOf_47 (by decide) ?_
          refine lv_iadd hx hb dX0_balanceOf_48 ?_
          obtain ⟨g11, h⟩ := cki h
          refine m_iald X w (o + 9) (shn hs 9 rfl) (shk hs 9 rfl : S.2.1 (o + 9) = 11) (shz hs 9 rfl : S.2.2.1 (o + 9) = 30) g11 dX0_balanceOf_49 ?_
          refine lv_iload_n hx hb dX0_balanceOf_50 rfl (lv_at hl 1 rfl) ?_
          refine lv_icmp_ne (tgt := 67) hx hb dX0_balanceOf_51 (by decide) (fun c12 => ?_) (fun c12 => ?_)
          · replace h := ifF h c12
            have g := B67 v1 v2 v3 h
            rw [hG] at g
            exact g H locs ls w (lv_sub hl [0, 1, 2, 3] rfl)
          · replace h := ifT h c12
            refine lv_iload_n hx hb dX0_balanceOf_54 rfl (lv_at hl 2 rfl) ?_
            refine lv_aload_n hx hb dX0_balanceOf_55 rfl (lv_at hl 0 rfl) ?_
            refine m_get X w o (shn hs 0 rfl) (shk hs 0 rfl : S.2.1 o = 0) ci0 8 (by decide) (fvR (shk hs 0 rfl : S.2.1 o = 0) rfl (shq hs 0 8 rfl rfl : S.2.2.2.1 o 8 = (o + 9) + 1)) rfl fl_X0_39 dX0_balanceOf_56 ?_
            refine lv_iconst (v := 3) hx hb dX0_balanceOf_59 (by decide) ?_
            refine lv_iload_n hx hb dX0_balanceOf_60 rfl (lv_at hl 3 rfl) ?_
            refine lv_imul hx hb dX0_balanceOf_61 ?_
            refine lv_iconst (v := 2) hx hb dX0_balanceOf_62 (by decide) ?_
            refine lv_iadd hx hb dX0_balanceOf_63 ?_
            obtain ⟨g14, h⟩ := cki h
            refine m_iald X w (o + 9) (shn hs 9 rfl) (shk hs 9 rfl : S.2.1 (o + 9) = 11) (shz hs 9 rfl : S.2.2.1 (o + 9) = 30) g14 dX0_balanceOf_64 ?_
            refine lv_isub hx hb dX0_balanceOf_65 ?_
            refine lv_topi (fun x15 ex15 => ?_)
            replace h := bdi h _ ex15
            refine lv_istore_n (lv' := [(2, .int x15), (0, .ref (ad o)), (1, .int v1), (3, .int v3)]) hx hb dX0_balanceOf_66 rfl hl (by decide) rfl (fun ls hl => ?_)
            have g := B67 v1 x15 v3 h
            rw [hG] at g
            exact g H locs ls w (lv_sub hl [1, 2, 0, 3] rfl)
        · replace h := ifT h c10
          refine lv_iload_n hx hb dX0_balanceOf_24 rfl (lv_at hl 2 rfl) ?_
          refine lv_aload_n hx hb dX0_balanceOf_25 rfl (lv_at hl 0 rfl) ?_
          refine m_get X w o (shn hs 0 rfl) (shk hs 0 rfl : S.2.1 o = 0) ci0 8 (by decide) (fvR (shk hs 0 rfl : S.2.1 o = 0) rfl (shq hs 0 8 rfl rfl : S.2.2.2.1 o 8 = (o + 9) + 1)) rfl fl_X0_39 dX0_balanceOf_26 ?_
          refine lv_iconst (v := 3) hx hb dX0_balanceOf_29 (by decide) ?_
          refine lv_iload_n hx hb dX0_balanceOf_30 rfl (lv_at hl 3 rfl) ?_
          refine lv_imul hx hb dX0_balanceOf_31 ?_
          refine lv_iconst (v := 2) hx hb dX0_balanceOf_32 (by decide) ?_
          refine lv_iadd hx hb dX0_balanceOf_33 ?_
          obtain ⟨g16, h⟩ := cki h
          refine m_iald X w (o + 9) (shn hs 9 rfl) (shk hs 9 rfl : S.2.1 (o + 9) = 11) (shz hs 9 rfl : S.2.2.1 (o + 9) = 30) g16 dX0_balanceOf_34 ?_
          refine lv_iadd hx hb dX0_balanceOf_35 ?_
          refine lv_topi (fun x17 ex17 => ?_)
          replace h := bdi h _ ex17
          refine lv_istore_n (lv' := [(2, .int x17), (0, .ref (ad o)), (1, .int v1), (3, .int v3)]) hx hb dX0_balanceOf_36 rfl hl (by decide) rfl (fun ls hl => ?_)
          refine lv_goto (tgt := 67) hx hb dX0_balanceOf_37 (by decide) ?_
          have g := B67 v1 x17 v3 h
          rw [hG] at g
          exact g H locs ls w (lv_sub hl [1, 2, 0, 3] rfl)
  rw [f_X0_balanceOf] at h
  refine lv_iconst (v := 0) hx hb dX0_balanceOf_0 (by decide) ?_
  refine lv_istore_n (lv' := [(2, .int (0 : Int32)), (0, .ref (ad o)), (1, .int a1)]) hx hb dX0_balanceOf_1 rfl hl (by decide) rfl (fun ls hl => ?_)
  refine lv_iconst (v := 0) hx hb dX0_balanceOf_2 (by decide) ?_
  refine lv_istore_n (lv' := [(3, .int (0 : Int32)), (2, .int (0 : Int32)), (0, .ref (ad o)), (1, .int a1)]) hx hb dX0_balanceOf_3 rfl hl (by decide) rfl (fun ls hl => ?_)
  have g := L4 N a1 (0 : Int32) (0 : Int32) h
  rw [hG] at g
  exact g H locs ls w (lv_sub hl [2, 3, 1, 0] rfl)
def f_X1_clear (N : Nat) (S : St) (V : Vt) (o : Nat) : Option Vt := bd (sF V o 1 (0 : Int32)) (fun V2 => some V2)
set_option maxHeartbeats 4000000 in
set_option maxRecDepth 100000 in
theorem c_X1_clear (l : Launch) (D : va_G) (cy : Nat → ClassId) (ad : Nat → Nat) (A : Nat → Prop) (Kc : State → Prop) (C0 : Cx ad A Kc) (N : Nat) (S : St) (V : Vt) (o : Nat) (hs : shp S o t1) (V' : Vt) (h : f_X1_clear N S V o = some V') : Met l yX1_clear (mw yX1_clear cX1_clear 1 none) { frames := 0, cells := 0, slots := 0, locals := 0 } (PreM D cy ad Kc S V [.ref (ad o)]) (QV D cy ad A S V') 0 0 A := by
  refine ct_go C0 (own := RX1) rfl (by decide) rfl ?_
  intro p e s m below meth c ls H locs X hr hlocks hnm hl w
  have hx := X.1.1
  have hb := X.1.2.1
  have hown := X.2.1
  have hts := X.2.2.1
  have hl : lv_has ls 1 [(0, .ref (ad o))] := hl
  rw [f_X1_clear] at h
  refine lv_aload_n hx hb dX1_clear_0 rfl (lv_at hl 0 rfl) ?_
  refine lv_iconst (v := 0) hx hb dX1_clear_1 (by decide) ?_
  refine m_put X w o (shn hs 0 rfl) (shk hs 0 rfl : S.2.1 o = 1) ci1 1 (by decide) rfl rfl rfl rfl rfl fl_X1_15 dX1_clear_2 (fun V2 H locs eV2 w => ?_)
  replace h := bdi h _ eV2
  obtain rfl := Option.some.inj h
  exact m_rv X w hr hlocks dX1_clear_5
def f_X1_copyFrom (N : Nat) (S : St) (V : Vt) (o : Nat) (a1 : Nat) : Option Vt := cg (cpB (0 : Int32) (0 : Int32) (80 : Int32) 80 80) (bd (sC V (o + 1) (va_cpy (V.2.1 (a1 + 1)) (V.2.1 (o + 1)) (0 : Int32).toNatClampNeg (0 : Int32).toNatClampNeg (80 : Int32).toNatClampNeg)) (fun V5 => bd (sF V5 o 1 (V5.1 a1 1)) (fun V6 => some V6)))
set_option maxHeartbeats 4000000 in
set_option maxRecDepth 100000 in
theorem c_X1_copyFrom (l : Launch) (D : va_G) (cy : Nat → ClassId) (ad : Nat → Nat) (A : Nat → Prop) (Kc : State → Prop) (C0 : Cx ad A Kc) (N : Nat) (S : St) (V : Vt) (o : Nat) (hs : shp S o t1) (a1 : Nat) (hs_a1 : shp S a1 t1) (V' : Vt) (h : f_X1_copyFrom N S V o a1 = some V') : Met l yX1_copyFrom (mw yX1_copyFrom cX1_copyFrom 2 none) { frames := 1, cells := 0, slots := 0, locals := 40 } (PreM D cy ad Kc S V [.ref (ad o), .ref (ad a1)]) (QV D cy ad A S V') 0 0 A := by
  refine ct_go C0 (own := RX1) rfl (by decide) rfl ?_
  intro p e s m below meth c ls H locs X hr hlocks hnm hl w
  have hx := X.1.1
  have hb := X.1.2.1
  have hown := X.2.1
  have hts := X.2.2.1
  have hl : lv_has ls 2 [(0, .ref (ad o)), (1, .ref (ad a1))] := hl
  rw [f_X1_copyFrom] at h
  refine lv_aload_n hx hb dX1_copyFrom_0 rfl (lv_at hl 1 rfl) ?_
  refine m_get X w a1 (shn hs_a1 0 rfl) (shk hs_a1 0 rfl : S.2.1 a1 = 1) ci1 0 (by decide) (fvR (shk hs_a1 0 rfl : S.2.1 a1 = 1) rfl (shq hs_a1 0 0 rfl rfl : S.2.2.2.1 a1 0 = (a1 + 1) + 1)) rfl fl_X1_11 dX1_copyFrom_1 ?_
  refine lv_iconst (v := 0) hx hb dX1_copyFrom_4 (by decide) ?_
  refine lv_aload_n hx hb dX1_copyFrom_5 rfl (lv_at hl 0 rfl) ?_
  refine m_get X w o (shn hs 0 rfl) (shk hs 0 rfl : S.2.1 o = 1) ci1 0 (by decide) (fvR (shk hs 0 rfl : S.2.1 o = 1) rfl (shq hs 0 0 rfl rfl : S.2.2.2.1 o 0 = (o + 1) + 1)) rfl fl_X1_11 dX1_copyFrom_6 ?_
  refine lv_iconst (v := 0) hx hb dX1_copyFrom_9 (by decide) ?_
  refine lv_bipush (v := 80) hx hb dX1_copyFrom_10 (by decide) ?_
  obtain ⟨g4, h⟩ := cgi h
  have g4 := cpB_of g4
  refine m_copy (rest := []) X w hl ml_X1_19 nat_copy sta_copy ini_copy (a1 + 1) (o + 1) (shn hs_a1 1 rfl) (shn hs 1 rfl) (shk hs_a1 1 rfl : S.2.1 (a1 + 1) = 11) (shk hs 1 rfl : S.2.1 (o + 1) = 11) (shz hs_a1 1 rfl : S.2.2.1 (a1 + 1) = 80) (shz hs 1 rfl : S.2.2.1 (o + 1) = 80) g4.1 g4.2.1 g4.2.2.1 g4.2.2.2.1 g4.2.2.2.2 (Nat.le_of_ble_eq_true rfl) (Nat.le_of_ble_eq_true rfl) dX1_copyFrom_12 (fun V5 H locs eV5 w => ?_)
  replace h := bdi h _ eV5
  refine lv_aload_n hx hb dX1_copyFrom_15 rfl (lv_at hl 0 rfl) ?_
  refine lv_aload_n hx hb dX1_copyFrom_16 rfl (lv_at hl 1 rfl) ?_
  refine m_get X w a1 (shn hs_a1 0 rfl) (shk hs_a1 0 rfl : S.2.1 a1 = 1) ci1 1 (by decide) (fvI (shk hs_a1 0 rfl : S.2.1 a1 = 1) rfl) rfl fl_X1_15 dX1_copyFrom_17 ?_
  refine m_put X w o (shn hs 0 rfl) (shk hs 0 rfl : S.2.1 o = 1) ci1 1 (by decide) rfl rfl rfl rfl rfl fl_X1_15 dX1_copyFrom_20 (fun V6 H locs eV6 w => ?_)
  replace h := bdi h _ eV6
  obtain rfl := Option.some.inj h
  exact m_rv X w hr hlocks dX1_copyFrom_23
def f_X1_keep_34 (N : Nat) (S : St) (o : Nat) (V : Vt) (v1 : Int32) (v2 : Int32) (v3 : Int32) (v4 : Int32) (v5 : Int32) : Option Vt := bd ((5 : Int32) * (V.1 o 1)) (fun x17 => ck x17 80 (bd (sA V (o + 1) x17.toNatClampNeg v1) (fun V19 => ck (x17 + (1 : Int32)) 80 (bd (sA V19 (o + 1) (x17 + (1 : Int32)).toNatClampNeg v2) (fun V21 => ck (x17 + (2 : Int32)) 80 (bd (sA V21 (o + 1) (x17 + (2 : Int32)).toNatClampNeg v3) (fun V23 => ck (x17 + (3 : Int32)) 80 (bd (sA V23 (o + 1) (x17 + (3 : Int32)).toNatClampNeg v4) (fun V25 => ck (x17 + (4 : Int32)) 80 (bd (sA V25 (o + 1) (x17 + (4 : Int32)).toNatClampNeg v5) (fun V27 => bd (sF V27 o 1 ((V27.1 o 1) + (1 : Int32))) (fun V28 => some V28))))))))))))
def f_X1_keep (N : Nat) (S : St) (V : Vt) (o : Nat) (a1 : Int32) (a2 : Int32) (a3 : Int32) (a4 : Int32) (a5 : Int32) : Option Vt := if (V.1 o 1) = (16 : Int32) then cg (cpB (5 : Int32) (0 : Int32) (75 : Int32) 80 80) (bd (sC V (o + 1) (va_cpy (V.2.1 (o + 1)) (V.2.1 (o + 1)) (5 : Int32).toNatClampNeg (0 : Int32).toNatClampNeg (75 : Int32).toNatClampNeg)) (fun V30 => bd (sF V30 o 1 ((V30.1 o 1) - (1 : Int32))) (fun V31 => f_X1_keep_34 N S o V31 a1 a2 a3 a4 a5))) else f_X1_keep_34 N S o V a1 a2 a3 a4 a5
set_option maxHeartbeats 4000000 in
set_option maxRecDepth 100000 in
theorem c_X1_keep (l : Launch) (D : va_G) (cy : Nat → ClassId) (ad : Nat → Nat) (A : Nat → Prop) (Kc : State → Prop) (C0 : Cx ad A Kc) (N : Nat) (S : St) (V : Vt) (o : Nat) (hs : shp S o t1) (a1 : Int32) (a2 : Int32) (a3 : Int32) (a4 : Int32) (a5 : Int32) (V' : Vt) (h : f_X1_keep N S V o a1 a2 a3 a4 a5 = some V') : Met l yX1_keep (mw yX1_keep cX1_keep 7 none) { frames := 1, cells := 0, slots := 0, locals := 40 } (PreM D cy ad Kc S V [.ref (ad o), .int a1, .int a2, .int a3, .int a4, .int a5]) (QV D cy ad A S V') 0 0 A := by
  refine ct_go C0 (own := RX1) rfl (by decide) rfl ?_
  intro p e s m below meth c ls H locs X hr hlocks hnm hl w
  have hx := X.1.1
  have hb := X.1.2.1
  have hown := X.2.1
  have hts := X.2.2.1
  have hl : lv_has ls 7 [(0, .ref (ad o)), (1, .int a1), (2, .int a2), (3, .int a3), (4, .int a4), (5, .int a5)] := hl
  obtain ⟨G, hG⟩ : ∃ G : Nat → Vt → List (Nat × Value) → List Value → Prop, G = fun pc V lv st => ∀ (H : Heap) (locs : List Loc) (ls : Array Slot), Wd D cy ad A s.heap S V H locs → lv_has ls 7 lv → W p l e { frames := 1, cells := 0, slots := 0, locals := 40 } s m ([.ref (ad o), .int a1, .int a2, .int a3, .int a4, .int a5] : List Value).toArray below meth c H locs 0 0 (MQ below (QV D cy ad A S V') ([.ref (ad o), .int a1, .int a2, .int a3, .int a4, .int a5] : List Value).toArray s 0 0 A) (F0 m pc ls st) := ⟨_, rfl⟩
  have B34 : ∀ (V : Vt) (v1 : Int32) (v2 : Int32) (v3 : Int32) (v4 : Int32) (v5 : Int32), f_X1_keep_34 N S o V v1 v2 v3 v4 v5 = some V' → G 34 V [(0, .ref (ad o)), (1, .int v1), (2, .int v2), (3, .int v3), (4, .int v4), (5, .int v5)] [] := by
    intro V v1 v2 v3 v4 v5 h
    rw [hG]
    intro H locs ls w hl
    rw [f_X1_keep_34] at h
    refine lv_iconst (v := 5) hx hb dX1_keep_34 (by decide) ?_
    refine lv_aload_n hx hb dX1_keep_35 rfl (lv_at hl 0 rfl) ?_
    refine m_get X w o (shn hs 0 rfl) (shk hs 0 rfl : S.2.1 o = 1) ci1 1 (by decide) (fvI (shk hs 0 rfl : S.2.1 o = 1) rfl) rfl fl_X1_15 dX1_keep_36 ?_
    refine lv_imul hx hb dX1_keep_39 ?_
    refine lv_topi (fun x17 ex17 => ?_)
    replace h := bdi h _ ex17
    refine lv_istore (lv' := [(6, .int x17), (0, .ref (ad o)), (1, .int v1), (2, .int v2), (3, .int v3), (4, .int v4), (5, .int v5)]) hx hb dX1_keep_40 hl (by decide) rfl (fun ls hl => ?_)
    refine lv_aload_n hx hb dX1_keep_42 rfl (lv_at hl 1 rfl) ?_
    refine m_get X w o (shn hs 0 rfl) (shk hs 0 rfl : S.2.1 o = 1) ci1 0 (by decide) (fvR (shk hs 0 rfl : S.2.1 o = 1) rfl (shq hs 0 0 rfl rfl : S.2.2.2.1 o 0 = (o + 1) + 1)) rfl fl_X1_11 dX1_keep_43 ?_
    refine lv_iload hx hb dX1_keep_46 (lv_at hl 0 rfl) ?_
    refine lv_iload_n hx hb dX1_keep_48 rfl (lv_at hl 2 rfl) ?_
    obtain ⟨g18, h⟩ := cki h
    refine m_iast X w (o + 1) (shn hs 1 rfl) (shk hs 1 rfl : S.2.1 (o + 1) = 11) (shz hs 1 rfl : S.2.2.1 (o + 1) = 80) g18 dX1_keep_49 (fun V19 H locs eV19 w => ?_)
    replace h := bdi h _ eV19
    refine lv_aload_n hx hb dX1_keep_50 rfl (lv_at hl 1 rfl) ?_
    refine m_get X w o (shn hs 0 rfl) (shk hs 0 rfl : S.2.1 o = 1) ci1 0 (by decide) (fvR (shk hs 0 rfl : S.2.1 o = 1) rfl (shq hs 0 0 rfl rfl : S.2.2.2.1 o 0 = (o + 1) + 1)) rfl fl_X1_11 dX1_keep_51 ?_
    refine lv_iload hx hb dX1_keep_54 (lv_at hl 0 rfl) ?_
    refine lv_iconst (v := 1) hx hb dX1_keep_56 (by decide) ?_
    refine lv_iadd hx hb dX1_keep_57 ?_
    refine lv_iload_n hx hb dX1_keep_58 rfl (lv_at hl 3 rfl) ?_
    obtain ⟨g20, h⟩ := cki h
    refine m_iast X w (o + 1) (shn hs 1 rfl) (shk hs 1 rfl : S.2.1 (o + 1) = 11) (shz hs 1 rfl : S.2.2.1 (o + 1) = 80) g20 dX1_keep_59 (fun V21 H locs eV21 w => ?_)
    replace h := bdi h _ eV21
    refine lv_aload_n hx hb dX1_keep_60 rfl (lv_at hl 1 rfl) ?_
    refine m_get X w o (shn hs 0 rfl) (shk hs 0 rfl : S.2.1 o = 1) ci1 0 (by decide) (fvR (shk hs 0 rfl : S.2.1 o = 1) rfl (shq hs 0 0 rfl rfl : S.2.2.2.1 o 0 = (o + 1) + 1)) rfl fl_X1_11 dX1_keep_61 ?_
    refine lv_iload hx hb dX1_keep_64 (lv_at hl 0 rfl) ?_
    refine lv_iconst (v := 2) hx hb dX1_keep_66 (by decide) ?_
    refine lv_iadd hx hb dX1_keep_67 ?_
    refine lv_iload_n hx hb dX1_keep_68 rfl (lv_at hl 4 rfl) ?_
    obtain ⟨g22, h⟩ := cki h
    refine m_iast X w (o + 1) (shn hs 1 rfl) (shk hs 1 rfl : S.2.1 (o + 1) = 11) (shz hs 1 rfl : S.2.2.1 (o + 1) = 80) g22 dX1_keep_69 (fun V23 H locs eV23 w => ?_)
    replace h := bdi h _ eV23
    refine lv_aload_n hx hb dX1_keep_70 rfl (lv_at hl 1 rfl) ?_
    refine m_get X w o (shn hs 0 rfl) (shk hs 0 rfl : S.2.1 o = 1) ci1 0 (by decide) (fvR (shk hs 0 rfl : S.2.1 o = 1) rfl (shq hs 0 0 rfl rfl : S.2.2.2.1 o 0 = (o + 1) + 1)) rfl fl_X1_11 dX1_keep_71 ?_
    refine lv_iload hx hb dX1_keep_74 (lv_at hl 0 rfl) ?_
    refine lv_iconst (v := 3) hx hb dX1_keep_76 (by decide) ?_
    refine lv_iadd hx hb dX1_keep_77 ?_
    refine lv_iload hx hb dX1_keep_78 (lv_at hl 5 rfl) ?_
    obtain ⟨g24, h⟩ := cki h
    refine m_iast X w (o + 1) (shn hs 1 rfl) (shk hs 1 rfl : S.2.1 (o + 1) = 11) (shz hs 1 rfl : S.2.2.1 (o + 1) = 80) g24 dX1_keep_80 (fun V25 H locs eV25 w => ?_)
    replace h := bdi h _ eV25
    refine lv_aload_n hx hb dX1_keep_81 rfl (lv_at hl 1 rfl) ?_
    refine m_get X w o (shn hs 0 rfl) (shk hs 0 rfl : S.2.1 o = 1) ci1 0 (by decide) (fvR (shk hs 0 rfl : S.2.1 o = 1) rfl (shq hs 0 0 rfl rfl : S.2.2.2.1 o 0 = (o + 1) + 1)) rfl fl_X1_11 dX1_keep_82 ?_
    refine lv_iload hx hb dX1_keep_85 (lv_at hl 0 rfl) ?_
    refine lv_iconst (v := 4) hx hb dX1_keep_87 (by decide) ?_
    refine lv_iadd hx hb dX1_keep_88 ?_
    refine lv_iload hx hb dX1_keep_89 (lv_at hl 6 rfl) ?_
    obtain ⟨g26, h⟩ := cki h
    refine m_iast X w (o + 1) (shn hs 1 rfl) (shk hs 1 rfl : S.2.1 (o + 1) = 11) (shz hs 1 rfl : S.2.2.1 (o + 1) = 80) g26 dX1_keep_91 (fun V27 H locs eV27 w => ?_)
    replace h := bdi h _ eV27
    refine lv_aload_n hx hb dX1_keep_92 rfl (lv_at hl 1 rfl) ?_
    refine lv_dup hx hb dX1_keep_93 rfl ?_
    refine m_get X w o (shn hs 0 rfl) (shk hs 0 rfl : S.2.1 o = 1) ci1 1 (by decide) (fvI (shk hs 0 rfl : S.2.1 o = 1) rfl) rfl fl_X1_15 dX1_keep_94 ?_
    refine lv_iconst (v := 1) hx hb dX1_keep_97 (by decide) ?_
    refine lv_iadd hx hb dX1_keep_98 ?_
    refine m_put X w o (shn hs 0 rfl) (shk hs 0 rfl : S.2.1 o = 1) ci1 1 (by decide) rfl rfl rfl rfl rfl fl_X1_15 dX1_keep_99 (fun V28 H locs eV28 w => ?_)
    replace h := bdi h _ eV28
    obtain rfl := Option.some.inj h
    exact m_rv X w hr hlocks dX1_keep_102
  rw [f_X1_keep] at h
  refine lv_aload_n hx hb dX1_keep_0 rfl (lv_at hl 0 rfl) ?_
  refine m_get X w o (shn hs 0 rfl) (shk hs 0 rfl : S.2.1 o = 1) ci1 1 (by decide) (fvI (shk hs 0 rfl : S.2.1 o = 1) rfl) rfl fl_X1_15 dX1_keep_1 ?_
  refine lv_bipush (v := 16) hx hb dX1_keep_4 (by decide) ?_
  refine lv_icmp_ne (tgt := 34) hx hb dX1_keep_6 (by decide) (fun c16 => ?_) (fun c16 => ?_)
  · replace h := ifF h c16
    have g := B34 V a1 a2 a3 a4 a5 h
    rw [hG] at g
    exact g H locs ls w (lv_sub hl [0, 1, 2, 3, 4, 5] rfl)
  · replace h := ifT h c16
    refine lv_aload_n hx hb dX1_keep_9 rfl (lv_at hl 0 rfl) ?_
    refine m_get X w o (shn hs 0 rfl) (shk hs 0 rfl : S.2.1 o = 1) ci1 0 (by decide) (fvR (shk hs 0 rfl : S.2.1 o = 1) rfl (shq hs 0 0 rfl rfl : S.2.2.2.1 o 0 = (o + 1) + 1)) rfl fl_X1_11 dX1_keep_10 ?_
    refine lv_iconst (v := 5) hx hb dX1_keep_13 (by decide) ?_
    refine lv_aload_n hx hb dX1_keep_14 rfl (lv_at hl 0 rfl) ?_
    refine m_get X w o (shn hs 0 rfl) (shk hs 0 rfl : S.2.1 o = 1) ci1 0 (by decide) (fvR (shk hs 0 rfl : S.2.1 o = 1) rfl (shq hs 0 0 rfl rfl : S.2.2.2.1 o 0 = (o + 1) + 1)) rfl fl_X1_11 dX1_keep_15 ?_
    refine lv_iconst (v := 0) hx hb dX1_keep_18 (by decide) ?_
    refine lv_bipush (v := 75) hx hb dX1_keep_19 (by decide) ?_
    obtain ⟨g29, h⟩ := cgi h
    have g29 := cpB_of g29
    refine m_copy (rest := []) X w hl ml_X1_19 nat_copy sta_copy ini_copy (o + 1) (o + 1) (shn hs 1 rfl) (shn hs 1 rfl) (shk hs 1 rfl : S.2.1 (o + 1) = 11) (shk hs 1 rfl : S.2.1 (o + 1) = 11) (shz hs 1 rfl : S.2.2.1 (o + 1) = 80) (shz hs 1 rfl : S.2.2.1 (o + 1) = 80) g29.1 g29.2.1 g29.2.2.1 g29.2.2.2.1 g29.2.2.2.2 (Nat.le_of_ble_eq_true rfl) (Nat.le_of_ble_eq_true rfl) dX1_keep_21 (fun V30 H locs eV30 w => ?_)
    replace h := bdi h _ eV30
    refine lv_aload_n hx hb dX1_keep_24 rfl (lv_at hl 0 rfl) ?_
    refine lv_dup hx hb dX1_keep_25 rfl ?_
    refine m_get X w o (shn hs 0 rfl) (shk hs 0 rfl : S.2.1 o = 1) ci1 1 (by decide) (fvI (shk hs 0 rfl : S.2.1 o = 1) rfl) rfl fl_X1_15 dX1_keep_26 ?_
    refine lv_iconst (v := 1) hx hb dX1_keep_29 (by decide) ?_
    refine lv_isub hx hb dX1_keep_30 ?_
    refine m_put X w o (shn hs 0 rfl) (shk hs 0 rfl : S.2.1 o = 1) ci1 1 (by decide) rfl rfl rfl rfl rfl fl_X1_15 dX1_keep_31 (fun V31 H locs eV31 w => ?_)
    replace h := bdi h _ eV31
    have g := B34 V31 a1 a2 a3 a4 a5 h
    rw [hG] at g
    exact g H locs ls w (lv_sub hl [0, 1, 2, 3, 4, 5] rfl)
def f_X1_takeBack_170 (N : Nat) (S : St) (o : Nat) (a1 : Nat) (V : Vt) (v2 : Int32) : Option (Int32 × Vt) := ck v2 80 (some (V.2.1 (o + 1) v2.toNatClampNeg, V))
def f_X1_takeBack (N : Nat) (S : St) (V : Vt) (o : Nat) (a1 : Nat) : Option (Int32 × Vt) := if (V.1 o 1) = 0 then some ((-3 : Int32), V) else bd (sF V o 1 ((V.1 o 1) - (1 : Int32))) (fun V30 => bd ((5 : Int32) * (V30.1 o 1)) (fun x31 => ck (x31 + (1 : Int32)) 80 (bd (V30.2.1 (o + 1) (x31 + (1 : Int32)).toNatClampNeg) (fun x33 => ck (x31 + (2 : Int32)) 80 (bd (V30.2.1 (o + 1) (x31 + (2 : Int32)).toNatClampNeg) (fun x35 => ck (x31 + (3 : Int32)) 80 (bd (V30.2.1 (o + 1) (x31 + (3 : Int32)).toNatClampNeg) (fun x37 => ck x31 80 (bd (V30.2.1 (o + 1) x31.toNatClampNeg) (fun x39 => if x39 = (0 : Int32) then ck x33 25 (ck x33 25 (bd (sA V30 (a1 + 1) x33.toNatClampNeg ((V30.2.1 (a1 + 1) x33.toNatClampNeg) + x37)) (fun V43 => ck (x31 + (4 : Int32)) 80 (ck x35 5 (bd (sA V43 (a1 + 5) x35.toNatClampNeg (V43.2.1 (o + 1) (x31 + (4 : Int32)).toNatClampNeg)) (fun V46 => f_X1_takeBack_170 N S o a1 V46 x31)))))) else if x39 = (1 : Int32) then ck x33 25 (ck x33 25 (bd (sA V30 (a1 + 1) x33.toNatClampNeg ((V30.2.1 (a1 + 1) x33.toNatClampNeg) + x37)) (fun V51 => ck x35 25 (ck x35 25 (bd (sA V51 (a1 + 1) x35.toNatClampNeg ((V51.2.1 (a1 + 1) x35.toNatClampNeg) - x37)) (fun V54 => f_X1_takeBack_170 N S o a1 V54 x31)))))) else if x39 = (2 : Int32) then ck x33 25 (ck x33 25 (bd (sA V30 (a1 + 2) x33.toNatClampNeg ((1 : Int32) - (V30.2.1 (a1 + 2) x33.toNatClampNeg))) (fun V58 => f_X1_takeBack_170 N S o a1 V58 x31))) else ck (0 : Int32) 3 (ck (0 : Int32) 3 (bd (sA V30 (a1 + 6) (0 : Int32).toNatClampNeg ((V30.2.1 (a1 + 6) (0 : Int32).toNatClampNeg) - (1 : Int32))) (fun V61 => f_X1_takeBack_170 N S o a1 V61 x31)))))))))))))
set_option maxHeartbeats 4000000 in
set_option maxRecDepth 100000 in
theorem c_X1_takeBack (l : Launch) (D : va_G) (cy : Nat → ClassId) (ad : Nat → Nat) (A : Nat → Prop) (Kc : State → Prop) (C0 : Cx ad A Kc) (N : Nat) (S : St) (V : Vt) (o : Nat) (hs : shp S o t1) (a1 : Nat) (hs_a1 : shp S a1 t0) (r : Int32) (V' : Vt) (h : f_X1_takeBack N S V o a1 = some (r, V')) : Met l yX1_takeBack (mw yX1_takeBack cX1_takeBack 6 (some .int)) { frames := 0, cells := 0, slots := 0, locals := 0 } (PreM D cy ad Kc S V [.ref (ad o), .ref (ad a1)]) (QI D cy ad A r S V') 0 0 A := by
  refine ct_go C0 (own := RX1) rfl (by decide) rfl ?_
  intro p e s m below meth c ls H locs X hr hlocks hnm hl w
  have hx := X.1.1
  have hb := X.1.2.1
  have hown := X.2.1
  have hts := X.2.2.1
  have hl : lv_has ls 6 [(0, .ref (ad o)), (1, .ref (ad a1))] := hl
  obtain ⟨G, hG⟩ : ∃ G : Nat → Vt → List (Nat × Value) → List Value → Prop, G = fun pc V lv st => ∀ (H : Heap) (locs : List Loc) (ls : Array Slot), Wd D cy ad A s.heap S V H locs → lv_has ls 6 lv → W p l e { frames := 0, cells := 0, slots := 0, locals := 0 } s m ([.ref (ad o), .ref (ad a1)] : List Value).toArray below meth c H locs 0 0 (MQ below (QI D cy ad A r S V') ([.ref (ad o), .ref (ad a1)] : List Value).toArray s 0 0 A) (F0 m pc ls st) := ⟨_, rfl⟩
  have B170 : ∀ (V : Vt) (v2 : Int32), f_X1_takeBack_170 N S o a1 V v2 = some (r, V') → G 170 V [(0, .ref (ad o)), (2, .int v2)] [] := by
    intro V v2 h
    rw [hG]
    intro H locs ls w hl
    rw [f_X1_takeBack_170] at h
    refine lv_aload_n hx hb dX1_takeBack_170 rfl (lv_at hl 0 rfl) ?_
    refine m_get X w o (shn hs 0 rfl) (shk hs 0 rfl : S.2.1 o = 1) ci1 0 (by decide) (fvR (shk hs 0 rfl : S.2.1 o = 1) rfl (shq hs 0 0 rfl rfl : S.2.2.2.1 o 0 = (o + 1) + 1)) rfl fl_X1_11 dX1_takeBack_171 ?_
    refine lv_iload_n hx hb dX1_takeBack_174 rfl (lv_at hl 1 rfl) ?_
    obtain ⟨g47, h⟩ := cki h
    refine m_iald X w (o + 1) (shn hs 1 rfl) (shk hs 1 rfl : S.2.1 (o + 1) = 11) (shz hs 1 rfl : S.2.2.1 (o + 1) = 80) g47 dX1_takeBack_175 ?_
    obtain ⟨rfl, rfl⟩ := reti h
    exact m_ri X w hr hlocks dX1_takeBack_176
  rw [f_X1_takeBack] at h
  refine lv_aload_n hx hb dX1_takeBack_0 rfl (lv_at hl 0 rfl) ?_
  refine m_get X w o (shn hs 0 rfl) (shk hs 0 rfl : S.2.1 o = 1) ci1 1 (by decide) (fvI (shk hs 0 rfl : S.2.1 o = 1) rfl) rfl fl_X1_15 dX1_takeBack_1 ?_
  refine lv_if_ne (tgt := 10) hx hb dX1_takeBack_4 (by decide) (fun c29 => ?_) (fun c29 => ?_)
  · replace h := ifF h c29
    refine lv_aload_n hx hb dX1_takeBack_10 rfl (lv_at hl 0 rfl) ?_
    refine lv_dup hx hb dX1_takeBack_11 rfl ?_
    refine m_get X w o (shn hs 0 rfl) (shk hs 0 rfl : S.2.1 o = 1) ci1 1 (by decide) (fvI (shk hs 0 rfl : S.2.1 o = 1) rfl) rfl fl_X1_15 dX1_takeBack_12 ?_
    refine lv_iconst (v := 1) hx hb dX1_takeBack_15 (by decide) ?_
    refine lv_isub hx hb dX1_takeBack_16 ?_
    refine m_put X w o (shn hs 0 rfl) (shk hs 0 rfl : S.2.1 o = 1) ci1 1 (by decide) rfl rfl rfl rfl rfl fl_X1_15 dX1_takeBack_17 (fun V30 H locs eV30 w => ?_)
    replace h := bdi h _ eV30
    refine lv_iconst (v := 5) hx hb dX1_takeBack_20 (by decide) ?_
    refine lv_aload_n hx hb dX1_takeBack_21 rfl (lv_at hl 0 rfl) ?_
    refine m_get X w o (shn hs 0 rfl) (shk hs 0 rfl : S.2.1 o = 1) ci1 1 (by decide) (fvI (shk hs 0 rfl : S.2.1 o = 1) rfl) rfl fl_X1_15 dX1_takeBack_22 ?_
    refine lv_imul hx hb dX1_takeBack_25 ?_
    refine lv_topi (fun x31 ex31 => ?_)
    replace h := bdi h _ ex31
    refine lv_istore_n (lv' := [(2, .int x31), (0, .ref (ad o)), (1, .ref (ad a1))]) hx hb dX1_takeBack_26 rfl hl (by decide) rfl (fun ls hl => ?_)
    refine lv_aload_n hx hb dX1_takeBack_27 rfl (lv_at hl 1 rfl) ?_
    refine m_get X w o (shn hs 0 rfl) (shk hs 0 rfl : S.2.1 o = 1) ci1 0 (by decide) (fvR (shk hs 0 rfl : S.2.1 o = 1) rfl (shq hs 0 0 rfl rfl : S.2.2.2.1 o 0 = (o + 1) + 1)) rfl fl_X1_11 dX1_takeBack_28 ?_
    refine lv_iload_n hx hb dX1_takeBack_31 rfl (lv_at hl 0 rfl) ?_
    refine lv_iconst (v := 1) hx hb dX1_takeBack_32 (by decide) ?_
    refine lv_iadd hx hb dX1_takeBack_33 ?_
    obtain ⟨g32, h⟩ := cki h
    refine m_iald X w (o + 1) (shn hs 1 rfl) (shk hs 1 rfl : S.2.1 (o + 1) = 11) (shz hs 1 rfl : S.2.2.1 (o + 1) = 80) g32 dX1_takeBack_34 ?_
    refine lv_topi (fun x33 ex33 => ?_)
    replace h := bdi h _ ex33
    refine lv_istore_n (lv' := [(3, .int x33), (2, .int x31), (0, .ref (ad o)), (1, .ref (ad a1))]) hx hb dX1_takeBack_35 rfl hl (by decide) rfl (fun ls hl => ?_)
    refine lv_aload_n hx hb dX1_takeBack_36 rfl (lv_at hl 2 rfl) ?_
    refine m_get X w o (shn hs 0 rfl) (shk hs 0 rfl : S.2.1 o = 1) ci1 0 (by decide) (fvR (shk hs 0 rfl : S.2.1 o = 1) rfl (shq hs 0 0 rfl rfl : S.2.2.2.1 o 0 = (o + 1) + 1)) rfl fl_X1_11 dX1_takeBack_37 ?_
    refine lv_iload_n hx hb dX1_takeBack_40 rfl (lv_at hl 1 rfl) ?_
    refine lv_iconst (v := 2) hx hb dX1_takeBack_41 (by decide) ?_
    refine lv_iadd hx hb dX1_takeBack_42 ?_
    obtain ⟨g34, h⟩ := cki h
    refine m_iald X w (o + 1) (shn hs 1 rfl) (shk hs 1 rfl : S.2.1 (o + 1) = 11) (shz hs 1 rfl : S.2.2.1 (o + 1) = 80) g34 dX1_takeBack_43 ?_
    refine lv_topi (fun x35 ex35 => ?_)
    replace h := bdi h _ ex35
    refine lv_istore (lv' := [(4, .int x35), (3, .int x33), (2, .int x31), (0, .ref (ad o)), (1, .ref (ad a1))]) hx hb dX1_takeBack_44 hl (by decide) rfl (fun ls hl => ?_)
    refine lv_aload_n hx hb dX1_takeBack_46 rfl (lv_at hl 3 rfl) ?_
    refine m_get X w o (shn hs 0 rfl) (shk hs 0 rfl : S.2.1 o = 1) ci1 0 (by decide) (fvR (shk hs 0 rfl : S.2.1 o = 1) rfl (shq hs 0 0 rfl rfl : S.2.2.2.1 o 0 = (o + 1) + 1)) rfl fl_X1_11 dX1_takeBack_47 ?_
    refine lv_iload_n hx hb dX1_takeBack_50 rfl (lv_at hl 2 rfl) ?_
    refine lv_iconst (v := 3) hx hb dX1_takeBack_51 (by decide) ?_
    refine lv_iadd hx hb dX1_takeBack_52 ?_
    obtain ⟨g36, h⟩ := cki h
    refine m_iald X w (o + 1) (shn hs 1 rfl) (shk hs 1 rfl : S.2.1 (o + 1) = 11) (shz hs 1 rfl : S.2.2.1 (o + 1) = 80) g36 dX1_takeBack_53 ?_
    refine lv_topi (fun x37 ex37 => ?_)
    replace h := bdi h _ ex37
    refine lv_istore (lv' := [(5, .int x37), (4, .int x35), (3, .int x33), (2, .int x31), (0, .ref (ad o)), (1, .ref (ad a1))]) hx hb dX1_takeBack_54 hl (by decide) rfl (fun ls hl => ?_)
    refine lv_aload_n hx hb dX1_takeBack_56 rfl (lv_at hl 4 rfl) ?_
    refine m_get X w o (shn hs 0 rfl) (shk hs 0 rfl : S.2.1 o = 1) ci1 0 (by decide) (fvR (shk hs 0 rfl : S.2.1 o = 1) rfl (shq hs 0 0 rfl rfl : S.2.2.2.1 o 0 = (o + 1) + 1)) rfl fl_X1_11 dX1_takeBack_57 ?_
    refine lv_iload_n hx hb dX1_takeBack_60 rfl (lv_at hl 3 rfl) ?_
    obtain ⟨g38, h⟩ := cki h
    refine m_iald X w (o + 1) (shn hs 1 rfl) (shk hs 1 rfl : S.2.1 (o + 1) = 11) (shz hs 1 rfl : S.2.2.1 (o + 1) = 80) g38 dX1_takeBack_61 ?_
    refine lv_topi (fun x39 ex39 => ?_)
    replace h := bdi h _ ex39
    rcases Decidable.em (x39 = (0 : Int32)) with c40 | c40
    · replace h := ifT h c40
      refine lv_tableIn (tgt := 88) hx hb dX1_takeBack_62 (by rw [c40]; decide) (by rw [c40]; decide) (by rw [c40]; rfl) (by decide) ?_
      refine lv_aload_n hx hb dX1_takeBack_88 rfl (lv_at hl 5 rfl) ?_
      refine m_getN X w a1 (shn hs_a1 0 rfl) (shk hs_a1 0 rfl : S.2.1 a1 = 0) ci0 0 (by decide) (fvR (shk hs_a1 0 rfl : S.2.1 a1 = 0) rfl (shq hs_a1 0 0 rfl rfl : S.2.2.2.1 a1 0 = (a1 + 1) + 1)) rfl nf_X1_25 dX1_takeBack_89 ?_
      refine lv_iload_n hx hb dX1_takeBack_92 rfl (lv_at hl 2 rfl) ?_
      refine lv_dup2_11 hx hb dX1_takeBack_93 rfl rfl ?_
      obtain ⟨g41, h⟩ := cki h
      refine m_iald X w (a1 + 1) (shn hs_a1 1 rfl) (shk hs_a1 1 rfl : S.2.1 (a1 + 1) = 11) (shz hs_a1 1 rfl : S.2.2.1 (a1 + 1) = 25) g41 dX1_takeBack_94 ?_
      refine lv_iload hx hb dX1_takeBack_95 (lv_at hl 0 rfl) ?_
      refine lv_iadd hx hb dX1_takeBack_97 ?_
      obtain ⟨g42, h⟩ := cki h
      refine m_iast X w (a1 + 1) (shn hs_a1 1 rfl) (shk hs_a1 1 rfl : S.2.1 (a1 + 1) = 11) (shz hs_a1 1 rfl : S.2.2.1 (a1 + 1) = 25) g42 dX1_takeBack_98 (fun V43 H locs eV43 w => ?_)
      replace h := bdi h _ eV43
      refine lv_aload_n hx hb dX1_takeBack_99 rfl (lv_at hl 5 rfl) ?_
      refine m_getN X w a1 (shn hs_a1 0 rfl) (shk hs_a1 0 rfl : S.2.1 a1 = 0) ci0 4 (by decide) (fvR (shk hs_a1 0 rfl : S.2.1 a1 = 0) rfl (shq hs_a1 0 4 rfl rfl : S.2.2.2.1 a1 4 = (a1 + 5) + 1)) rfl nf_X1_30 dX1_takeBack_100 ?_
      refine lv_iload hx hb dX1_takeBack_103 (lv_at hl 1 rfl) ?_
      refine lv_aload_n hx hb dX1_takeBack_105 rfl (lv_at hl 4 rfl) ?_
      refine m_get X w o (shn hs 0 rfl) (shk hs 0 rfl : S.2.1 o = 1) ci1 0 (by decide) (fvR (shk hs 0 rfl : S.2.1 o = 1) rfl (shq hs 0 0 rfl rfl : S.2.2.2.1 o 0 = (o + 1) + 1)) rfl fl_X1_11 dX1_takeBack_106 ?_
      refine lv_iload_n hx hb dX1_takeBack_109 rfl (lv_at hl 3 rfl) ?_
      refine lv_iconst (v := 4) hx hb dX1_takeBack_110 (by decide) ?_
      refine lv_iadd hx hb dX1_takeBack_111 ?_
      obtain ⟨g44, h⟩ := cki h
      refine m_iald X w (o + 1) (shn hs 1 rfl) (shk hs 1 rfl : S.2.1 (o + 1) = 11) (shz hs 1 rfl : S.2.2.1 (o + 1) = 80) g44 dX1_takeBack_112 ?_
      obtain ⟨g45, h⟩ := cki h
      refine m_iast X w (a1 + 5) (shn hs_a1 5 rfl) (shk hs_a1 5 rfl : S.2.1 (a1 + 5) = 11) (shz hs_a1 5 rfl : S.2.2.1 (a1 + 5) = 5) g45 dX1_takeBack_113 (fun V46 H locs eV46 w => ?_)
      replace h := bdi h _ eV46
      refine lv_goto (tgt := 170) hx hb dX1_takeBack_114 (by decide) ?_
      have g := B170 V46 x31 h
      rw [hG] at g
      exact g H locs ls w (lv_sub hl [4, 3] rfl)
    · replace h := ifF h c40
      rcases Decidable.em (x39 = (1 : Int32)) with c48 | c48
      · replace h := ifT h c48
        refine lv_tableIn (tgt := 117) hx hb dX1_takeBack_62 (by rw [c48]; decide) (by rw [c48]; decide) (by rw [c48]; rfl) (by decide) ?_
        refine lv_aload_n hx hb dX1_takeBack_117 rfl (lv_at hl 5 rfl) ?_
        refine m_getN X w a1 (shn hs_a1 0 rfl) (shk hs_a1 0 rfl : S.2.1 a1 = 0) ci0 0 (by decide) (fvR (shk hs_a1 0 rfl : S.2.1 a1 = 0) rfl (shq hs_a1 0 0 rfl rfl : S.2.2.2.1 a1 0 = (a1 + 1) + 1)) rfl nf_X1_25 dX1_takeBack_118 ?_
        refine lv_iload_n hx hb dX1_takeBack_121 rfl (lv_at hl 2 rfl) ?_
        refine lv_dup2_11 hx hb dX1_takeBack_122 rfl rfl ?_
        obtain ⟨g49, h⟩ := cki h
        refine m_iald X w (a1 + 1) (shn hs_a1 1 rfl) (shk hs_a1 1 rfl : S.2.1 (a1 + 1) = 11) (shz hs_a1 1 rfl : S.2.2.1 (a1 + 1) = 25) g49 dX1_takeBack_123 ?_
        refine lv_iload hx hb dX1_takeBack_124 (lv_at hl 0 rfl) ?_
        refine lv_iadd hx hb dX1_takeBack_126 ?_
        obtain ⟨g50, h⟩ := cki h
        refine m_iast X w (a1 + 1) (shn hs_a1 1 rfl) (shk hs_a1 1 rfl : S.2.1 (a1 + 1) = 11) (shz hs_a1 1 rfl : S.2.2.1 (a1 + 1) = 25) g50 dX1_takeBack_127 (fun V51 H locs eV51 w => ?_)
        replace h := bdi h _ eV51
        refine lv_aload_n hx hb dX1_takeBack_128 rfl (lv_at hl 5 rfl) ?_
        refine m_getN X w a1 (shn hs_a1 0 rfl) (shk hs_a1 0 rfl : S.2.1 a1 = 0) ci0 0 (by decide) (fvR (shk hs_a1 0 rfl : S.2.1 a1 = 0) rfl (shq hs_a1 0 0 rfl rfl : S.2.2.2.1 a1 0 = (a1 + 1) + 1)) rfl nf_X1_25 dX1_takeBack_129 ?_
        refine lv_iload hx hb dX1_takeBack_132 (lv_at hl 1 rfl) ?_
        refine lv_dup2_11 hx hb dX1_takeBack_134 rfl rfl ?_
        obtain ⟨g52, h⟩ := cki h
        refine m_iald X w (a1 + 1) (shn hs_a1 1 rfl) (shk hs_a1 1 rfl : S.2.1 (a1 + 1) = 11) (shz hs_a1 1 rfl : S.2.2.1 (a1 + 1) = 25) g52 dX1_takeBack_135 ?_
        refine lv_iload hx hb dX1_takeBack_136 (lv_at hl 0 rfl) ?_
        refine lv_isub hx hb dX1_takeBack_138 ?_
        obtain ⟨g53, h⟩ := cki h
        refine m_iast X w (a1 + 1) (shn hs_a1 1 rfl) (shk hs_a1 1 rfl : S.2.1 (a1 + 1) = 11) (shz hs_a1 1 rfl : S.2.2.1 (a1 + 1) = 25) g53 dX1_takeBack_139 (fun V54 H locs eV54 w => ?_)
        replace h := bdi h _ eV54
        refine lv_goto (tgt := 170) hx hb dX1_takeBack_140 (by decide) ?_
        have g := B170 V54 x31 h
        rw [hG] at g
        exact g H locs ls w (lv_sub hl [4, 3] rfl)
      · replace h := ifF h c48
        rcases Decidable.em (x39 = (2 : Int32)) with c55 | c55
        · replace h := ifT h c55
          refine lv_tableIn (tgt := 143) hx hb dX1_takeBack_62 (by rw [c55]; decide) (by rw [c55]; decide) (by rw [c55]; rfl) (by decide) ?_
          refine lv_aload_n hx hb dX1_takeBack_143 rfl (lv_at hl 5 rfl) ?_
          refine m_getN X w a1 (shn hs_a1 0 rfl) (shk hs_a1 0 rfl : S.2.1 a1 = 0) ci0 1 (by decide) (fvR (shk hs_a1 0 rfl : S.2.1 a1 = 0) rfl (shq hs_a1 0 1 rfl rfl : S.2.2.2.1 a1 1 = (a1 + 2) + 1)) rfl nf_X1_33 dX1_takeBack_144 ?_
          refine lv_iload_n hx hb dX1_takeBack_147 rfl (lv_at hl 2 rfl) ?_
          refine lv_iconst (v := 1) hx hb dX1_takeBack_148 (by decide) ?_
          refine lv_aload_n hx hb dX1_takeBack_149 rfl (lv_at hl 5 rfl) ?_
          refine m_getN X w a1 (shn hs_a1 0 rfl) (shk hs_a1 0 rfl : S.2.1 a1 = 0) ci0 1 (by decide) (fvR (shk hs_a1 0 rfl : S.2.1 a1 = 0) rfl (shq hs_a1 0 1 rfl rfl : S.2.2.2.1 a1 1 = (a1 + 2) + 1)) rfl nf_X1_33 dX1_takeBack_150 ?_
          refine lv_iload_n hx hb dX1_takeBack_153 rfl (lv_at hl 2 rfl) ?_
          obtain ⟨g56, h⟩ := cki h
          refine m_iald X w (a1 + 2) (shn hs_a1 2 rfl) (shk hs_a1 2 rfl : S.2.1 (a1 + 2) = 11) (shz hs_a1 2 rfl : S.2.2.1 (a1 + 2) = 25) g56 dX1_takeBack_154 ?_
          refine lv_isub hx hb dX1_takeBack_155 ?_
          obtain ⟨g57, h⟩ := cki h
          refine m_iast X w (a1 + 2) (shn hs_a1 2 rfl) (shk hs_a1 2 rfl : S.2.1 (a1 + 2) = 11) (shz hs_a1 2 rfl : S.2.2.1 (a1 + 2) = 25) g57 dX1_takeBack_156 (fun V58 H locs eV58 w => ?_)
          replace h := bdi h _ eV58
          refine lv_goto (tgt := 170) hx hb dX1_takeBack_157 (by decide) ?_
          have g := B170 V58 x31 h
          rw [hG] at g
          exact g H locs ls w (lv_sub hl [4, 3] rfl)
        · replace h := ifF h c55
          refine lv_tableOut (tgt := 160) hx hb dX1_takeBack_62 (sw_out [(0 : Int32), (1 : Int32), (2 : Int32)] (by decide) (by intro q hq; simp only [List.mem_cons, List.not_mem_nil, or_false] at hq; rcases hq with rfl | rfl | rfl <;> assumption)) (by decide) ?_
          refine lv_aload_n hx hb dX1_takeBack_160 rfl (lv_at hl 5 rfl) ?_
          refine m_getN X w a1 (shn hs_a1 0 rfl) (shk hs_a1 0 rfl : S.2.1 a1 = 0) ci0 5 (by decide) (fvR (shk hs_a1 0 rfl : S.2.1 a1 = 0) rfl (shq hs_a1 0 5 rfl rfl : S.2.2.2.1 a1 5 = (a1 + 6) + 1)) rfl nf_X1_36 dX1_takeBack_161 ?_
          refine lv_iconst (v := 0) hx hb dX1_takeBack_164 (by decide) ?_
          refine lv_dup2_11 hx hb dX1_takeBack_165 rfl rfl ?_
          obtain ⟨g59, h⟩ := cki h
          refine m_iald X w (a1 + 6) (shn hs_a1 6 rfl) (shk hs_a1 6 rfl : S.2.1 (a1 + 6) = 11) (shz hs_a1 6 rfl : S.2.2.1 (a1 + 6) = 3) g59 dX1_takeBack_166 ?_
          refine lv_iconst (v := 1) hx hb dX1_takeBack_167 (by decide) ?_
          refine lv_isub hx hb dX1_takeBack_168 ?_
          obtain ⟨g60, h⟩ := cki h
          refine m_iast X w (a1 + 6) (shn hs_a1 6 rfl) (shk hs_a1 6 rfl : S.2.1 (a1 + 6) = 11) (shz hs_a1 6 rfl : S.2.2.1 (a1 + 6) = 3) g60 dX1_takeBack_169 (fun V61 H locs eV61 w => ?_)
          replace h := bdi h _ eV61
          have g := B170 V61 x31 h
          rw [hG] at g
          exact g H locs ls w (lv_sub hl [4, 3] rfl)
  · replace h := ifT h c29
    refine lv_bipush (v := (-3)) hx hb dX1_takeBack_7 (by decide) ?_
    obtain ⟨rfl, rfl⟩ := reti h
    exact m_ri X w hr hlocks dX1_takeBack_9
def f_X2_put (N : Nat) (S : St) (V : Vt) (o : Nat) (a1 : Int32) (a2 : Int32) : Option Vt := ck a1 10 (bd (sA V (o + 1) a1.toNatClampNeg a2) (fun V4 => some V4))
set_option maxHeartbeats 4000000 in
set_option maxRecDepth 100000 in
theorem c_X2_put (l : Launch) (D : va_G) (cy : Nat → ClassId) (ad : Nat → Nat) (A : Nat → Prop) (Kc : State → Prop) (C0 : Cx ad A Kc) (N : Nat) (S : St) (V : Vt) (o : Nat) (hs : shp S o t2) (a1 : Int32) (a2 : Int32) (V' : Vt) (h : f_X2_put N S V o a1 a2 = some V') : Met l yX2_put (mw yX2_put cX2_put 3 none) { frames := 0, cells := 0, slots := 0, locals := 0 } (PreM D cy ad Kc S V [.ref (ad o), .int a1, .int a2]) (QV D cy ad A S V') 0 0 A := by
  refine ct_go C0 (own := RX2) rfl (by decide) rfl ?_
  intro p e s m below meth c ls H locs X hr hlocks hnm hl w
  have hx := X.1.1
  have hb := X.1.2.1
  have hown := X.2.1
  have hts := X.2.2.1
  have hl : lv_has ls 3 [(0, .ref (ad o)), (1, .int a1), (2, .int a2)] := hl
  rw [f_X2_put] at h
  refine lv_aload_n hx hb dX2_put_0 rfl (lv_at hl 0 rfl) ?_
  refine m_get X w o (shn hs 0 rfl) (shk hs 0 rfl : S.2.1 o = 2) ci2 0 (by decide) (fvR (shk hs 0 rfl : S.2.1 o = 2) rfl (shq hs 0 0 rfl rfl : S.2.2.2.1 o 0 = (o + 1) + 1)) rfl fl_X2_11 dX2_put_1 ?_
  refine lv_iload_n hx hb dX2_put_4 rfl (lv_at hl 1 rfl) ?_
  refine lv_iload_n hx hb dX2_put_5 rfl (lv_at hl 2 rfl) ?_
  obtain ⟨g3, h⟩ := cki h
  refine m_iast X w (o + 1) (shn hs 1 rfl) (shk hs 1 rfl : S.2.1 (o + 1) = 11) (shz hs 1 rfl : S.2.2.1 (o + 1) = 10) g3 dX2_put_6 (fun V4 H locs eV4 w => ?_)
  replace h := bdi h _ eV4
  obtain rfl := Option.some.inj h
  exact m_rv X w hr hlocks dX2_put_7
def f_X2_hasBoth (N : Nat) (a1 : Int32) (a2 : Int32) (a3 : Int32) : Option Int32 := if (a1 &&& a2) = 0 then some (0 : Int32) else if (a1 &&& a3) = 0 then some (0 : Int32) else some (1 : Int32)
set_option maxHeartbeats 4000000 in
set_option maxRecDepth 100000 in
theorem c_X2_hasBoth (l : Launch) (D : va_G) (cy : Nat → ClassId) (ad : Nat → Nat) (A : Nat → Prop) (Kc : State → Prop) (C0 : Cx ad A Kc) (N : Nat) (S : St) (V : Vt) (a1 : Int32) (a2 : Int32) (a3 : Int32) (r : Int32) (h : f_X2_hasBoth N a1 a2 a3 = some r) : Met l yX2_hasBoth (mw yX2_hasBoth cX2_hasBoth 3 (some .int)) { frames := 0, cells := 0, slots := 0, locals := 0 } (PreM D cy ad Kc S V [.int a1, .int a2, .int a3]) (QI D cy ad A r S V) 0 0 A := by
  refine ct_go C0 (own := RX2) rfl (by decide) rfl ?_
  intro p e s m below meth c ls H locs X hr hlocks hnm hl w
  have hx := X.1.1
  have hb := X.1.2.1
  have hown := X.2.1
  have hts := X.2.2.1
  have hl : lv_has ls 3 [(0, .int a1), (1, .int a2), (2, .int a3)] := hl
  rw [f_X2_hasBoth] at h
  refine lv_iload_n hx hb dX2_hasBoth_0 rfl (lv_at hl 0 rfl) ?_
  refine lv_iload_n hx hb dX2_hasBoth_1 rfl (lv_at hl 1 rfl) ?_
  refine lv_iand hx hb dX2_hasBoth_2 ?_
  refine lv_if_eq (tgt := 16) hx hb dX2_hasBoth_3 (by decide) (fun c1 => ?_) (fun c1 => ?_)
  · replace h := ifT h c1
    refine lv_iconst (v := 0) hx hb dX2_hasBoth_16 (by decide) ?_
    obtain rfl := Option.some.inj h
    exact m_ri X w hr hlocks dX2_hasBoth_17
  · replace h := ifF h c1
    refine lv_iload_n hx hb dX2_hasBoth_6 rfl (lv_at hl 0 rfl) ?_
    refine lv_iload_n hx hb dX2_hasBoth_7 rfl (lv_at hl 2 rfl) ?_
    refine lv_iand hx hb dX2_hasBoth_8 ?_
    refine lv_if_eq (tgt := 16) hx hb dX2_hasBoth_9 (by decide) (fun c2 => ?_) (fun c2 => ?_)
    · replace h := ifT h c2
      refine lv_iconst (v := 0) hx hb dX2_hasBoth_16 (by decide) ?_
      obtain rfl := Option.some.inj h
      exact m_ri X w hr hlocks dX2_hasBoth_17
    · replace h := ifF h c2
      refine lv_iconst (v := 1) hx hb dX2_hasBoth_12 (by decide) ?_
      refine lv_goto (tgt := 17) hx hb dX2_hasBoth_13 (by decide) ?_
      obtain rfl := Option.some.inj h
      exact m_ri X w hr hlocks dX2_hasBoth_17
def f_X3_placeAfter_5 (N : Nat) (S : St) (V : Vt) (o : Nat) : Nat → Int32 → Int32 → Int32 → Option Int32
  | 0, _, _, _ => none
  | n + 1, v2, v3, v4 => if v2 ≤ v4 then some v3 else ck v3 26 (bd (V.2.1 (o + 5) v3.toNatClampNeg) (fun x6 => bd (v4 + (1 : Int32)) (fun x7 => (f_X3_placeAfter_5 N S V o n) v2 x6 x7)))
def f_X3_placeAfter (N : Nat) (S : St) (V : Vt) (o : Nat) (a1 : Int32) (a2 : Int32) : Option Int32 := f_X3_placeAfter_5 N S V o N a2 a1 (0 : Int32)
set_option maxHeartbeats 4000000 in
set_option maxRecDepth 100000 in
theorem c_X3_placeAfter (l : Launch) (D : va_G) (cy : Nat → ClassId) (ad : Nat → Nat) (A : Nat → Prop) (Kc : State → Prop) (C0 : Cx ad A Kc) (N : Nat) (S : St) (V : Vt) (o : Nat) (hs : shp S o t3) (a1 : Int32) (a2 : Int32) (r : Int32) (h : f_X3_placeAfter N S V o a1 a2 = some r) : Met l yX3_placeAfter (mw yX3_placeAfter cX3_placeAfter 5 (some .int)) { frames := 0, cells := 0, slots := 0, locals := 0 } (PreM D cy ad Kc S V [.ref (ad o), .int a1, .int a2]) (QI D cy ad A r S V) 0 0 A := by
  refine ct_go C0 (own := RX3) rfl (by decide) rfl ?_
  intro p e s m below meth c ls H locs X hr hlocks hnm hl w
  have hx := X.1.1
  have hb := X.1.2.1
  have hown := X.2.1
  have hts := X.2.2.1
  have hl : lv_has ls 5 [(0, .ref (ad o)), (1, .int a1), (2, .int a2)] := hl
  obtain ⟨G, hG⟩ : ∃ G : Nat → Vt → List (Nat × Value) → List Value → Prop, G = fun pc V lv st => ∀ (H : Heap) (locs : List Loc) (ls : Array Slot), Wd D cy ad A s.heap S V H locs → lv_has ls 5 lv → W p l e { frames := 0, cells := 0, slots := 0, locals := 0 } s m ([.ref (ad o), .int a1, .int a2] : List Value).toArray below meth c H locs 0 0 (MQ below (QI D cy ad A r S V) ([.ref (ad o), .int a1, .int a2] : List Value).toArray s 0 0 A) (F0 m pc ls st) := ⟨_, rfl⟩
  have L5 : ∀ (n5 : Nat) (v2 : Int32) (v3 : Int32) (v4 : Int32), f_X3_placeAfter_5 N S V o n5 v2 v3 v4 = some r → G 5 V [(0, .ref (ad o)), (2, .int v2), (3, .int v3), (4, .int v4)] [] := by
    intro n5
    induction n5 with
    | zero => intro v2 v3 v4 h; rw [f_X3_placeAfter_5] at h; cases h
    | succ n5 ih5 =>
      intro v2 v3 v4 h
      rw [hG]
      intro H locs ls w hl
      rw [f_X3_placeAfter_5] at h
      refine lv_iload hx hb dX3_placeAfter_5 (lv_at hl 3 rfl) ?_
      refine lv_iload_n hx hb dX3_placeAfter_7 rfl (lv_at hl 1 rfl) ?_
      refine lv_icmp_ge (tgt := 24) hx hb dX3_placeAfter_8 (by decide) (fun c4 => ?_) (fun c4 => ?_)
      · replace h := ifT h c4
        refine lv_iload_n hx hb dX3_placeAfter_24 rfl (lv_at hl 2 rfl) ?_
        obtain rfl := Option.some.inj h
        exact m_ri X w hr hlocks dX3_placeAfter_25
      · replace h := ifF h c4
        refine lv_aload_n hx hb dX3_placeAfter_11 rfl (lv_at hl 0 rfl) ?_
        refine m_get X w o (shn hs 0 rfl) (shk hs 0 rfl : S.2.1 o = 3) ci3 1 (by decide) (fvR (shk hs 0 rfl : S.2.1 o = 3) rfl (shq hs 0 1 rfl rfl : S.2.2.2.1 o 1 = (o + 5) + 1)) rfl fl_X3_18 dX3_placeAfter_12 ?_
        refine lv_iload_n hx hb dX3_placeAfter_15 rfl (lv_at hl 2 rfl) ?_
        obtain ⟨g5, h⟩ := cki h
        refine m_iald X w (o + 5) (shn hs 5 rfl) (shk hs 5 rfl : S.2.1 (o + 5) = 11) (shz hs 5 rfl : S.2.2.1 (o + 5) = 26) g5 dX3_placeAfter_16 ?_
        refine lv_topi (fun x6 ex6 => ?_)
        replace h := bdi h _ ex6
        refine lv_istore_n (lv' := [(3, .int x6), (0, .ref (ad o)), (2, .int v2), (4, .int v4)]) hx hb dX3_placeAfter_17 rfl hl (by decide) rfl (fun ls hl => ?_)
        obtain ⟨x7, ex7⟩ : ∃ y : Int32, y = v4 + (1 : Int32) := ⟨_, rfl⟩
        replace h := bdi h _ ex7
        refine lv_iinc (v := x7) (lv' := [(4, .int x7), (3, .int x6), (0, .ref (ad o)), (2, .int v2)]) hx hb dX3_placeAfter_18 hl (k := 3) rfl (by rw [ex7]; rfl) (by decide) rfl (fun ls hl => ?_)
        refine lv_goto (tgt := 5) hx hb dX3_placeAfter_21 (by decide) ?_
        have g := ih5 v2 x6 x7 h
        rw [hG] at g
        exact g H locs ls w (lv_sub hl [2, 3, 1, 0] rfl)
  rw [f_X3_placeAfter] at h
  refine lv_iload_n hx hb dX3_placeAfter_0 rfl (lv_at hl 1 rfl) ?_
  refine lv_istore_n (lv' := [(3, .int a1), (0, .ref (ad o)), (1, .int a1), (2, .int a2)]) hx hb dX3_placeAfter_1 rfl hl (by decide) rfl (fun ls hl => ?_)
  refine lv_iconst (v := 0) hx hb dX3_placeAfter_2 (by decide) ?_
  refine lv_istore (lv' := [(4, .int (0 : Int32)), (3, .int a1), (0, .ref (ad o)), (1, .int a1), (2, .int a2)]) hx hb dX3_placeAfter_3 hl (by decide) rfl (fun ls hl => ?_)
  have g := L5 N a2 a1 (0 : Int32) h
  rw [hG] at g
  exact g H locs ls w (lv_sub hl [2, 4, 1, 0] rfl)
def f_X3_learnReach_47 (N : Nat) (S : St) (o : Nat) (K2 : Vt → Int32 → Option Vt) (V : Vt) (v1 : Int32) (v3 : Int32) : Option Vt := ck v1 25 (bd (sA V (o + 6) v1.toNatClampNeg v3) (fun V11 => bd (v1 + (1 : Int32)) (fun x12 => K2 V11 x12)))
def f_X3_learnReach_15 (N : Nat) (S : St) (o : Nat) (K2 : Vt → Int32 → Option Vt) : Nat → Vt → Int32 → Int32 → Int32 → Int32 → Option Vt
  | 0, _, _, _, _, _ => none
  | n + 1, V, v1, v2, v3, v4 => if (25 : Int32) ≤ v4 then f_X3_learnReach_47 N S o K2 V v1 v3 else if v2 = (25 : Int32) then f_X3_learnReach_47 N S o K2 V v1 v3 else bd (v3 ||| ((1 : Int32) <<< (v2 &&& 31))) (fun x14 => ck v2 26 (bd (V.2.1 (o + 5) v2.toNatClampNeg) (fun x16 => bd (v4 + (1 : Int32)) (fun x17 => (f_X3_learnReach_15 N S o K2 n) V v1 x16 x14 x17))))
def f_X3_learnReach_2 (N : Nat) (S : St) (o : Nat) : Nat → Vt → Int32 → Option Vt
  | 0, _, _ => none
  | n + 1, V, v1 => if (25 : Int32) ≤ v1 then some V else f_X3_learnReach_15 N S o (f_X3_learnReach_2 N S o n) N V v1 v1 (0 : Int32) (0 : Int32)
def f_X3_learnReach (N : Nat) (S : St) (V : Vt) (o : Nat) : Option Vt := f_X3_learnReach_2 N S o N V (0 : Int32)
set_option maxHeartbeats 4000000 in
set_option maxRecDepth 100000 in
theorem c_X3_learnReach (l : Launch) (D : va_G) (cy : Nat → ClassId) (ad : Nat → Nat) (A : Nat → Prop) (Kc : State → Prop) (C0 : Cx ad A Kc) (N : Nat) (S : St) (V : Vt) (o : Nat) (hs : shp S o t3) (V' : Vt) (h : f_X3_learnReach N S V o = some V') : Met l yX3_learnReach (mw yX3_learnReach cX3_learnReach 5 none) { frames := 0, cells := 0, slots := 0, locals := 0 } (PreM D cy ad Kc S V [.ref (ad o)]) (QV D cy ad A S V') 0 0 A := by
  refine ct_go C0 (own := RX3) rfl (by decide) rfl ?_
  intro p e s m below meth c ls H locs X hr hlocks hnm hl w
  have hx := X.1.1
  have hb := X.1.2.1
  have hown := X.2.1
  have hts := X.2.2.1
  have hl : lv_has ls 5 [(0, .ref (ad o))] := hl
  obtain ⟨G, hG⟩ : ∃ G : Nat → Vt → List (Nat × Value) → List Value → Prop, G = fun pc V lv st => ∀ (H : Heap) (locs : List Loc) (ls : Array Slot), Wd D cy ad A s.heap S V H locs → lv_has ls 5 lv → W p l e { frames := 0, cells := 0, slots := 0, locals := 0 } s m ([.ref (ad o)] : List Value).toArray below meth c H locs 0 0 (MQ below (QV D cy ad A S V') ([.ref (ad o)] : List Value).toArray s 0 0 A) (F0 m pc ls st) := ⟨_, rfl⟩
  have L2 : ∀ (n2 : Nat) (V : Vt) (v1 : Int32), f_X3_learnReach_2 N S o n2 V v1 = some V' → G 2 V [(0, .ref (ad o)), (1, .int v1)] [] := by
    intro n2
    induction n2 with
    | zero => intro V v1 h; rw [f_X3_learnReach_2] at h; cases h
    | succ n2 ih2 =>
      have B47 : ∀ (V : Vt) (v1 : Int32) (v3 : Int32), f_X3_learnReach_47 N S o (f_X3_learnReach_2 N S o n2) V v1 v3 = some V' → G 47 V [(0, .ref (ad o)), (1, .int v1), (3, .int v3)] [] := by
        intro V v1 v3 h
        rw [hG]
        intro H locs ls w hl
        rw [f_X3_learnReach_47] at h
        refine lv_aload_n hx hb dX3_learnReach_47 rfl (lv_at hl 0 rfl) ?_
        refine m_get X w o (shn hs 0 rfl) (shk hs 0 rfl : S.2.1 o = 3) ci3 2 (by decide) (fvR (shk hs 0 rfl : S.2.1 o = 3) rfl (shq hs 0 2 rfl rfl : S.2.2.2.1 o 2 = (o + 6) + 1)) rfl fl_X3_22 dX3_learnReach_48 ?_
        refine lv_iload_n hx hb dX3_learnReach_51 rfl (lv_at hl 1 rfl) ?_
        refine lv_iload_n hx hb dX3_learnReach_52 rfl (lv_at hl 2 rfl) ?_
        obtain ⟨g10, h⟩ := cki h
        refine m_iast X w (o + 6) (shn hs 6 rfl) (shk hs 6 rfl : S.2.1 (o + 6) = 11) (shz hs 6 rfl : S.2.2.1 (o + 6) = 25) g10 dX3_learnReach_53 (fun V11 H locs eV11 w => ?_)
        replace h := bdi h _ eV11
        obtain ⟨x12, ex12⟩ : ∃ y : Int32, y = v1 + (1 : Int32) := ⟨_, rfl⟩
        replace h := bdi h _ ex12
        refine lv_iinc (v := x12) (lv' := [(1, .int x12), (0, .ref (ad o)), (3, .int v3)]) hx hb dX3_learnReach_54 hl (k := 1) rfl (by rw [ex12]; rfl) (by decide) rfl (fun ls hl => ?_)
        refine lv_goto (tgt := 2) hx hb dX3_learnReach_57 (by decide) ?_
        have g := ih2 V11 x12 h
        rw [hG] at g
        exact g H locs ls w (lv_sub hl [1, 0] rfl)
      have L15 : ∀ (n15 : Nat) (V : Vt) (v1 : Int32) (v2 : Int32) (v3 : Int32) (v4 : Int32), f_X3_learnReach_15 N S o (f_X3_learnReach_2 N S o n2) n15 V v1 v2 v3 v4 = some V' → G 15 V [(0, .ref (ad o)), (1, .int v1), (2, .int v2), (3, .int v3), (4, .int v4)] [] := by
        intro n15
        induction n15 with
        | zero => intro V v1 v2 v3 v4 h; rw [f_X3_learnReach_15] at h; cases h
        | succ n15 ih15 =>
          intro V v1 v2 v3 v4 h
          rw [hG]
          intro H locs ls w hl
          rw [f_X3_learnReach_15] at h
          refine lv_iload hx hb dX3_learnReach_15 (lv_at hl 4 rfl) ?_
          refine lv_bipush (v := 25) hx hb dX3_learnReach_17 (by decide) ?_
          refine lv_icmp_ge (tgt := 47) hx hb dX3_learnReach_19 (by decide) (fun c9 => ?_) (fun c9 => ?_)
          · replace h := ifT h c9
            have g := B47 V v1 v3 h
            rw [hG] at g
            exact g H locs ls w (lv_sub hl [0, 1, 3] rfl)
          · replace h := ifF h c9
            refine lv_iload_n hx hb dX3_learnReach_22 rfl (lv_at hl 2 rfl) ?_
            refine lv_bipush (v := 25) hx hb dX3_learnReach_23 (by decide) ?_
            refine lv_icmp_eq (tgt := 47) hx hb dX3_learnReach_25 (by decide) (fun c13 => ?_) (fun c13 => ?_)
            · replace h := ifT h c13
              have g := B47 V v1 v3 h
              rw [hG] at g
              exact g H locs ls w (lv_sub hl [0, 1, 3] rfl)
            · replace h := ifF h c13
              refine lv_iload_n hx hb dX3_learnReach_28 rfl (lv_at hl 3 rfl) ?_
              refine lv_iconst (v := 1) hx hb dX3_learnReach_29 (by decide) ?_
              refine lv_iload_n hx hb dX3_learnReach_30 rfl (lv_at hl 2 rfl) ?_
              refine lv_ishl hx hb dX3_learnReach_31 ?_
              refine lv_ior hx hb dX3_learnReach_32 ?_
              refine lv_topi (fun x14 ex14 => ?_)
              replace h := bdi h _ ex14
              refine lv_istore_n (lv' := [(3, .int x14), (0, .ref (ad o)), (1, .int v1), (2, .int v2), (4, .int v4)]) hx hb dX3_learnReach_33 rfl hl (by decide) rfl (fun ls hl => ?_)
              refine lv_aload_n hx hb dX3_learnReach_34 rfl (lv_at hl 1 rfl) ?_
              refine m_get X w o (shn hs 0 rfl) (shk hs 0 rfl : S.2.1 o = 3) ci3 1 (by decide) (fvR (shk hs 0 rfl : S.2.1 o = 3) rfl (shq hs 0 1 rfl rfl : S.2.2.2.1 o 1 = (o + 5) + 1)) rfl fl_X3_18 dX3_learnReach_35 ?_
              refine lv_iload_n hx hb dX3_learnReach_38 rfl (lv_at hl 3 rfl) ?_
              obtain ⟨g15, h⟩ := cki h
              refine m_iald X w (o + 5) (shn hs 5 rfl) (shk hs 5 rfl : S.2.1 (o + 5) = 11) (shz hs 5 rfl : S.2.2.1 (o + 5) = 26) g15 dX3_learnReach_39 ?_
              refine lv_topi (fun x16 ex16 => ?_)
              replace h := bdi h _ ex16
              refine lv_istore_n (lv' := [(2, .int x16), (3, .int x14), (0, .ref (ad o)), (1, .int v1), (4, .int v4)]) hx hb dX3_learnReach_40 rfl hl (by decide) rfl (fun ls hl => ?_)
              obtain ⟨x17, ex17⟩ : ∃ y : Int32, y = v4 + (1 : Int32) := ⟨_, rfl⟩
              replace h := bdi h _ ex17
              refine lv_iinc (v := x17) (lv' := [(4, .int x17), (2, .int x16), (3, .int x14), (0, .ref (ad o)), (1, .int v1)]) hx hb dX3_learnReach_41 hl (k := 4) rfl (by rw [ex17]; rfl) (by decide) rfl (fun ls hl => ?_)
              refine lv_goto (tgt := 15) hx hb dX3_learnReach_44 (by decide) ?_
              have g := ih15 V v1 x16 x14 x17 h
              rw [hG] at g
              exact g H locs ls w (lv_sub hl [3, 4, 1, 2, 0] rfl)
      intro V v1 h
      rw [hG]
      intro H locs ls w hl
      rw [f_X3_learnReach_2] at h
      refine lv_iload_n hx hb dX3_learnReach_2 rfl (lv_at hl 1 rfl) ?_
      refine lv_bipush (v := 25) hx hb dX3_learnReach_3 (by decide) ?_
      refine lv_icmp_ge (tgt := 60) hx hb dX3_learnReach_5 (by decide) (fun c8 => ?_) (fun c8 => ?_)
      · replace h := ifT h c8
        obtain rfl := Option.some.inj h
        exact m_rv X w hr hlocks dX3_learnReach_60
      · replace h := ifF h c8
        refine lv_iload_n hx hb dX3_learnReach_8 rfl (lv_at hl 1 rfl) ?_
        refine lv_istore_n (lv' := [(2, .int v1), (0, .ref (ad o)), (1, .int v1)]) hx hb dX3_learnReach_9 rfl hl (by decide) rfl (fun ls hl => ?_)
        refine lv_iconst (v := 0) hx hb dX3_learnReach_10 (by decide) ?_
        refine lv_istore_n (lv' := [(3, .int (0 : Int32)), (2, .int v1), (0, .ref (ad o)), (1, .int v1)]) hx hb dX3_learnReach_11 rfl hl (by decide) rfl (fun ls hl => ?_)
        refine lv_iconst (v := 0) hx hb dX3_learnReach_12 (by decide) ?_
        refine lv_istore (lv' := [(4, .int (0 : Int32)), (3, .int (0 : Int32)), (2, .int v1), (0, .ref (ad o)), (1, .int v1)]) hx hb dX3_learnReach_13 hl (by decide) rfl (fun ls hl => ?_)
        have g := L15 N V v1 v1 (0 : Int32) (0 : Int32) h
        rw [hG] at g
        exact g H locs ls w (lv_sub hl [3, 4, 2, 1, 0] rfl)
  rw [f_X3_learnReach] at h
  refine lv_iconst (v := 0) hx hb dX3_learnReach_0 (by decide) ?_
  refine lv_istore_n (lv' := [(1, .int (0 : Int32)), (0, .ref (ad o))]) hx hb dX3_learnReach_1 rfl hl (by decide) rfl (fun ls hl => ?_)
  have g := L2 N V (0 : Int32) h
  rw [hG] at g
  exact g H locs ls w (lv_sub hl [1, 0] rfl)
def f_X3_sourceBits_4 (N : Nat) (S : St) (V : Vt) (o : Nat) : Nat → Int32 → Int32 → Int32 → Option Int32
  | 0, _, _, _ => none
  | n + 1, v1, v2, v3 => if (25 : Int32) ≤ v3 then some v2 else ck v3 25 (bd (v2 ||| ((((V.2.1 (o + 6) v3.toNatClampNeg) >>> (v1 &&& 31)) &&& (1 : Int32)) <<< (v3 &&& 31))) (fun x6 => bd (v3 + (1 : Int32)) (fun x7 => (f_X3_sourceBits_4 N S V o n) v1 x6 x7)))
def f_X3_sourceBits (N : Nat) (S : St) (V : Vt) (o : Nat) (a1 : Int32) : Option Int32 := f_X3_sourceBits_4 N S V o N a1 (0 : Int32) (0 : Int32)
set_option maxHeartbeats 4000000 in
set_option maxRecDepth 100000 in
theorem c_X3_sourceBits (l : Launch) (D : va_G) (cy : Nat → ClassId) (ad : Nat → Nat) (A : Nat → Prop) (Kc : State → Prop) (C0 : Cx ad A Kc) (N : Nat) (S : St) (V : Vt) (o : Nat) (hs : shp S o t3) (a1 : Int32) (r : Int32) (h : f_X3_sourceBits N S V o a1 = some r) : Met l yX3_sourceBits (mw yX3_sourceBits cX3_sourceBits 4 (some .int)) { frames := 0, cells := 0, slots := 0, locals := 0 } (PreM D cy ad Kc S V [.ref (ad o), .int a1]) (QI D cy ad A r S V) 0 0 A := by
  refine ct_go C0 (own := RX3) rfl (by decide) rfl ?_
  intro p e s m below meth c ls H locs X hr hlocks hnm hl w
  have hx := X.1.1
  have hb := X.1.2.1
  have hown := X.2.1
  have hts := X.2.2.1
  have hl : lv_has ls 4 [(0, .ref (ad o)), (1, .int a1)] := hl
  obtain ⟨G, hG⟩ : ∃ G : Nat → Vt → List (Nat × Value) → List Value → Prop, G = fun pc V lv st => ∀ (H : Heap) (locs : List Loc) (ls : Array Slot), Wd D cy ad A s.heap S V H locs → lv_has ls 4 lv → W p l e { frames := 0, cells := 0, slots := 0, locals := 0 } s m ([.ref (ad o), .int a1] : List Value).toArray below meth c H locs 0 0 (MQ below (QI D cy ad A r S V) ([.ref (ad o), .int a1] : List Value).toArray s 0 0 A) (F0 m pc ls st) := ⟨_, rfl⟩
  have L4 : ∀ (n4 : Nat) (v1 : Int32) (v2 : Int32) (v3 : Int32), f_X3_sourceBits_4 N S V o n4 v1 v2 v3 = some r → G 4 V [(0, .ref (ad o)), (1, .int v1), (2, .int v2), (3, .int v3)] [] := by
    intro n4
    induction n4 with
    | zero => intro v1 v2 v3 h; rw [f_X3_sourceBits_4] at h; cases h
    | succ n4 ih4 =>
      intro v1 v2 v3 h
      rw [hG]
      intro H locs ls w hl
      rw [f_X3_sourceBits_4] at h
      refine lv_iload_n hx hb dX3_sourceBits_4 rfl (lv_at hl 3 rfl) ?_
      refine lv_bipush (v := 25) hx hb dX3_sourceBits_5 (by decide) ?_
      refine lv_icmp_ge (tgt := 31) hx hb dX3_sourceBits_7 (by decide) (fun c4 => ?_) (fun c4 => ?_)
      · replace h := ifT h c4
        refine lv_iload_n hx hb dX3_sourceBits_31 rfl (lv_at hl 2 rfl) ?_
        obtain rfl := Option.some.inj h
        exact m_ri X w hr hlocks dX3_sourceBits_32
      · replace h := ifF h c4
        refine lv_iload_n hx hb dX3_sourceBits_10 rfl (lv_at hl 2 rfl) ?_
        refine lv_aload_n hx hb dX3_sourceBits_11 rfl (lv_at hl 0 rfl) ?_
        refine m_get X w o (shn hs 0 rfl) (shk hs 0 rfl : S.2.1 o = 3) ci3 2 (by decide) (fvR (shk hs 0 rfl : S.2.1 o = 3) rfl (shq hs 0 2 rfl rfl : S.2.2.2.1 o 2 = (o + 6) + 1)) rfl fl_X3_22 dX3_sourceBits_12 ?_
        refine lv_iload_n hx hb dX3_sourceBits_15 rfl (lv_at hl 3 rfl) ?_
        obtain ⟨g5, h⟩ := cki h
        refine m_iald X w (o + 6) (shn hs 6 rfl) (shk hs 6 rfl : S.2.1 (o + 6) = 11) (shz hs 6 rfl : S.2.2.1 (o + 6) = 25) g5 dX3_sourceBits_16 ?_
        refine lv_iload_n hx hb dX3_sourceBits_17 rfl (lv_at hl 1 rfl) ?_
        refine lv_ishr hx hb dX3_sourceBits_18 ?_
        refine lv_iconst (v := 1) hx hb dX3_sourceBits_19 (by decide) ?_
        refine lv_iand hx hb dX3_sourceBits_20 ?_
        refine lv_iload_n hx hb dX3_sourceBits_21 rfl (lv_at hl 3 rfl) ?_
        refine lv_ishl hx hb dX3_sourceBits_22 ?_
        refine lv_ior hx hb dX3_sourceBits_23 ?_
        refine lv_topi (fun x6 ex6 => ?_)
        replace h := bdi h _ ex6
        refine lv_istore_n (lv' := [(2, .int x6), (0, .ref (ad o)), (1, .int v1), (3, .int v3)]) hx hb dX3_sourceBits_24 rfl hl (by decide) rfl (fun ls hl => ?_)
        obtain ⟨x7, ex7⟩ : ∃ y : Int32, y = v3 + (1 : Int32) := ⟨_, rfl⟩
        replace h := bdi h _ ex7
        refine lv_iinc (v := x7) (lv' := [(3, .int x7), (2, .int x6), (0, .ref (ad o)), (1, .int v1)]) hx hb dX3_sourceBits_25 hl (k := 3) rfl (by rw [ex7]; rfl) (by decide) rfl (fun ls hl => ?_)
        refine lv_goto (tgt := 4) hx hb dX3_sourceBits_28 (by decide) ?_
        have g := ih4 v1 x6 x7 h
        rw [hG] at g
        exact g H locs ls w (lv_sub hl [2, 3, 1, 0] rfl)
  rw [f_X3_sourceBits] at h
  refine lv_iconst (v := 0) hx hb dX3_sourceBits_0 (by decide) ?_
  refine lv_istore_n (lv' := [(2, .int (0 : Int32)), (0, .ref (ad o)), (1, .int a1)]) hx hb dX3_sourceBits_1 rfl hl (by decide) rfl (fun ls hl => ?_)
  refine lv_iconst (v := 0) hx hb dX3_sourceBits_2 (by decide) ?_
  refine lv_istore_n (lv' := [(3, .int (0 : Int32)), (2, .int (0 : Int32)), (0, .ref (ad o)), (1, .int a1)]) hx hb dX3_sourceBits_3 rfl hl (by decide) rfl (fun ls hl => ?_)
  have g := L4 N a1 (0 : Int32) (0 : Int32) h
  rw [hG] at g
  exact g H locs ls w (lv_sub hl [2, 3, 1, 0] rfl)
def f_X3_mostAlike_87 (N : Nat) (S : St) (V : Vt) (o : Nat) (K18 : Int32 → Int32 → Int32 → Int32 → Int32 → Int32 → Option Int32) (v1 : Int32) (v2 : Int32) (v3 : Int32) (v4 : Int32) (v5 : Int32) (v6 : Int32) : Option Int32 := bd (v6 + (1 : Int32)) (fun x13 => K18 v1 v2 v3 v4 v5 x13)
def f_X3_mostAlike_50 (N : Nat) (S : St) (V : Vt) (o : Nat) (K18 : Int32 → Int32 → Int32 → Int32 → Int32 → Int32 → Option Int32) (v1 : Int32) (v2 : Int32) (v3 : Int32) (v4 : Int32) (v5 : Int32) (v6 : Int32) (s0 : Int32) : Option Int32 := if s0 = 0 then f_X3_mostAlike_87 N S V o K18 v1 v2 v3 v4 v5 v6 else ck ((v4 * (25 : Int32)) + v1) 150 (ck ((v6 * (25 : Int32)) + v1) 150 (if (V.2.1 (o + 8) ((v4 * (25 : Int32)) + v1).toNatClampNeg) = (V.2.1 (o + 8) ((v6 * (25 : Int32)) + v1).toNatClampNeg) then bd (v5 + (1 : Int32)) (fun x17 => f_X3_mostAlike_87 N S V o K18 v1 v2 v3 v4 x17 v6) else f_X3_mostAlike_87 N S V o K18 v1 v2 v3 v4 v5 v6))
def f_X3_mostAlike_49 (N : Nat) (S : St) (V : Vt) (o : Nat) (K18 : Int32 → Int32 → Int32 → Int32 → Int32 → Int32 → Option Int32) (v1 : Int32) (v2 : Int32) (v3 : Int32) (v4 : Int32) (v5 : Int32) (v6 : Int32) : Option Int32 := f_X3_mostAlike_50 N S V o K18 v1 v2 v3 v4 v5 v6 (0 : Int32)
def f_X3_mostAlike_18 (N : Nat) (S : St) (V : Vt) (o : Nat) (K5 : Int32 → Int32 → Int32 → Int32 → Option Int32) : Nat → Int32 → Int32 → Int32 → Int32 → Int32 → Int32 → Option Int32
  | 0, _, _, _, _, _, _ => none
  | n + 1, v1, v2, v3, v4, v5, v6 => if (6 : Int32) ≤ v6 then bd (mxI v3 v5) (fun x9 => bd (v4 + (1 : Int32)) (fun x10 => K5 v1 v2 x9 x10)) else if ((v2 >>> (v4 &&& 31)) &&& (1 : Int32)) = (1 : Int32) then if ((v2 >>> (v6 &&& 31)) &&& (1 : Int32)) = (1 : Int32) then f_X3_mostAlike_50 N S V o (f_X3_mostAlike_18 N S V o K5 n) v1 v2 v3 v4 v5 v6 (1 : Int32) else f_X3_mostAlike_49 N S V o (f_X3_mostAlike_18 N S V o K5 n) v1 v2 v3 v4 v5 v6 else f_X3_mostAlike_49 N S V o (f_X3_mostAlike_18 N S V o K5 n) v1 v2 v3 v4 v5 v6
def f_X3_mostAlike_5 (N : Nat) (S : St) (V : Vt) (o : Nat) : Nat → Int32 → Int32 → Int32 → Int32 → Option Int32
  | 0, _, _, _, _ => none
  | n + 1, v1, v2, v3, v4 => if (6 : Int32) ≤ v4 then some v3 else f_X3_mostAlike_18 N S V o (f_X3_mostAlike_5 N S V o n) N v1 v2 v3 v4 (0 : Int32) (0 : Int32)
def f_X3_mostAlike (N : Nat) (S : St) (V : Vt) (o : Nat) (a1 : Int32) (a2 : Int32) : Option Int32 := f_X3_mostAlike_5 N S V o N a1 a2 (0 : Int32) (0 : Int32)
set_option maxHeartbeats 4000000 in
set_option maxRecDepth 100000 in
theorem c_X3_mostAlike (l : Launch) (D : va_G) (cy : Nat → ClassId) (ad : Nat → Nat) (A : Nat → Prop) (Kc : State → Prop) (C0 : Cx ad A Kc) (N : Nat) (S : St) (V : Vt) (o : Nat) (hs : shp S o t3) (a1 : Int32) (a2 : Int32) (r : Int32) (h : f_X3_mostAlike N S V o a1 a2 = some r) : Met l yX3_mostAlike (mw yX3_mostAlike cX3_mostAlike 8 (some .int)) { frames := 1, cells := 0, slots := 0, locals := 40 } (PreM D cy ad Kc S V [.ref (ad o), .int a1, .int a2]) (QI D cy ad A r S V) 0 0 A := by
  refine ct_go C0 (own := RX3) rfl (by decide) rfl ?_
  intro p e s m below meth c ls H locs X hr hlocks hnm hl w
  have hx := X.1.1
  have hb := X.1.2.1
  have hown := X.2.1
  have hts := X.2.2.1
  have hl : lv_has ls 8 [(0, .ref (ad o)), (1, .int a1), (2, .int a2)] := hl
  obtain ⟨G, hG⟩ : ∃ G : Nat → Vt → List (Nat × Value) → List Value → Prop, G = fun pc V lv st => ∀ (H : Heap) (locs : List Loc) (ls : Array Slot), Wd D cy ad A s.heap S V H locs → lv_has ls 8 lv → W p l e { frames := 1, cells := 0, slots := 0, locals := 40 } s m ([.ref (ad o), .int a1, .int a2] : List Value).toArray below meth c H locs 0 0 (MQ below (QI D cy ad A r S V) ([.ref (ad o), .int a1, .int a2] : List Value).toArray s 0 0 A) (F0 m pc ls st) := ⟨_, rfl⟩
  have L5 : ∀ (n5 : Nat) (v1 : Int32) (v2 : Int32) (v3 : Int32) (v4 : Int32), f_X3_mostAlike_5 N S V o n5 v1 v2 v3 v4 = some r → G 5 V [(0, .ref (ad o)), (1, .int v1), (2, .int v2), (3, .int v3), (4, .int v4)] [] := by
    intro n5
    induction n5 with
    | zero => intro v1 v2 v3 v4 h; rw [f_X3_mostAlike_5] at h; cases h
    | succ n5 ih5 =>
      have L18 : ∀ (n18 : Nat) (v1 : Int32) (v2 : Int32) (v3 : Int32) (v4 : Int32) (v5 : Int32) (v6 : Int32), f_X3_mostAlike_18 N S V o (f_X3_mostAlike_5 N S V o n5) n18 v1 v2 v3 v4 v5 v6 = some r → G 18 V [(0, .ref (ad o)), (1, .int v1), (2, .int v2), (3, .int v3), (4, .int v4), (5, .int v5), (6, .int v6)] [] := by
        intro n18
        induction n18 with
        | zero => intro v1 v2 v3 v4 v5 v6 h; rw [f_X3_mostAlike_18] at h; cases h
        | succ n18 ih18 =>
          have B87 : ∀ (v1 : Int32) (v2 : Int32) (v3 : Int32) (v4 : Int32) (v5 : Int32) (v6 : Int32), f_X3_mostAlike_87 N S V o (f_X3_mostAlike_18 N S V o (f_X3_mostAlike_5 N S V o n5) n18) v1 v2 v3 v4 v5 v6 = some r → G 87 V [(0, .ref (ad o)), (1, .int v1), (2, .int v2), (3, .int v3), (4, .int v4), (5, .int v5), (6, .int v6)] [] := by
            intro v1 v2 v3 v4 v5 v6 h
            rw [hG]
            intro H locs ls w hl
            rw [f_X3_mostAlike_87] at h
            obtain ⟨x13, ex13⟩ : ∃ y : Int32, y = v6 + (1 : Int32) := ⟨_, rfl⟩
            replace h := bdi h _ ex13
            refine lv_iinc (v := x13) (lv' := [(6, .int x13), (0, .ref (ad o)), (1, .int v1), (2, .int v2), (3, .int v3), (4, .int v4), (5, .int v5)]) hx hb dX3_mostAlike_87 hl (k := 6) rfl (by rw [ex13]; rfl) (by decide) rfl (fun ls hl => ?_)
            refine lv_goto (tgt := 18) hx hb dX3_mostAlike_90 (by decide) ?_
            have g := ih18 v1 v2 v3 v4 v5 x13 h
            rw [hG] at g
            exact g H locs ls w (lv_sub hl [1, 2, 3, 4, 5, 6, 0] rfl)
          have B50 : ∀ (v1 : Int32) (v2 : Int32) (v3 : Int32) (v4 : Int32) (v5 : Int32) (v6 : Int32) (s0 : Int32), f_X3_mostAlike_50 N S V o (f_X3_mostAlike_18 N S V o (f_X3_mostAlike_5 N S V o n5) n18) v1 v2 v3 v4 v5 v6 s0 = some r → G 50 V [(0, .ref (ad o)), (1, .int v1), (2, .int v2), (3, .int v3), (4, .int v4), (5, .int v5), (6, .int v6)] [.int s0] := by
            intro v1 v2 v3 v4 v5 v6 s0 h
            rw [hG]
            intro H locs ls w hl
            rw [f_X3_mostAlike_50] at h
            refine lv_istore (lv' := [(7, .int s0), (0, .ref (ad o)), (1, .int v1), (2, .int v2), (3, .int v3), (4, .int v4), (5, .int v5), (6, .int v6)]) hx hb dX3_mostAlike_50 hl (by decide) rfl (fun ls hl => ?_)
            refine lv_iload hx hb dX3_mostAlike_52 (lv_at hl 0 rfl) ?_
            refine lv_if_eq (tgt := 87) hx hb dX3_mostAlike_54 (by decide) (fun c12 => ?_) (fun c12 => ?_)
            · replace h := ifT h c12
              have g := B87 v1 v2 v3 v4 v5 v6 h
              rw [hG] at g
              exact g H locs ls w (lv_sub hl [1, 2, 3, 4, 5, 6, 7] rfl)
            · replace h := ifF h c12
              refine lv_aload_n hx hb dX3_mostAlike_57 rfl (lv_at hl 1 rfl) ?_
              refine m_get X w o (shn hs 0 rfl) (shk hs 0 rfl : S.2.1 o = 3) ci3 4 (by decide) (fvR (shk hs 0 rfl : S.2.1 o = 3) rfl (shq hs 0 4 rfl rfl : S.2.2.2.1 o 4 = (o + 8) + 1)) rfl fl_X3_28 dX3_mostAlike_58 ?_
              refine lv_iload hx hb dX3_mostAlike_61 (lv_at hl 5 rfl) ?_
              refine lv_bipush (v := 25) hx hb dX3_mostAlike_63 (by decide) ?_
              refine lv_imul hx hb dX3_mostAlike_65 ?_
              refine lv_iload_n hx hb dX3_mostAlike_66 rfl (lv_at hl 2 rfl) ?_
              refine lv_iadd hx hb dX3_mostAlike_67 ?_
              obtain ⟨g14, h⟩ := cki h
              refine m_iald X w (o + 8) (shn hs 8 rfl) (shk hs 8 rfl : S.2.1 (o + 8) = 11) (shz hs 8 rfl : S.2.2.1 (o + 8) = 150) g14 dX3_mostAlike_68 ?_
              refine lv_aload_n hx hb dX3_mostAlike_69 rfl (lv_at hl 1 rfl) ?_
              refine m_get X w o (shn hs 0 rfl) (shk hs 0 rfl : S.2.1 o = 3) ci3 4 (by decide) (fvR (shk hs 0 rfl : S.2.1 o = 3) rfl (shq hs 0 4 rfl rfl : S.2.2.2.1 o 4 = (o + 8) + 1)) rfl fl_X3_28 dX3_mostAlike_70 ?_
              refine lv_iload hx hb dX3_mostAlike_73 (lv_at hl 7 rfl) ?_
              refine lv_bipush (v := 25) hx hb dX3_mostAlike_75 (by decide) ?_
              refine lv_imul hx hb dX3_mostAlike_77 ?_
              refine lv_iload_n hx hb dX3_mostAlike_78 rfl (lv_at hl 2 rfl) ?_
              refine lv_iadd hx hb dX3_mostAlike_79 ?_
              obtain ⟨g15, h⟩ := cki h
              refine m_iald X w (o + 8) (shn hs 8 rfl) (shk hs 8 rfl : S.2.1 (o + 8) = 11) (shz hs 8 rfl : S.2.2.1 (o + 8) = 150) g15 dX3_mostAlike_80 ?_
              refine lv_icmp_ne (tgt := 87) hx hb dX3_mostAlike_81 (by decide) (fun c16 => ?_) (fun c16 => ?_)
              · replace h := ifF h c16
                have g := B87 v1 v2 v3 v4 v5 v6 h
                rw [hG] at g
                exact g H locs ls w (lv_sub hl [1, 2, 3, 4, 5, 6, 7] rfl)
              · replace h := ifT h c16
                obtain ⟨x17, ex17⟩ : ∃ y : Int32, y = v5 + (1 : Int32) := ⟨_, rfl⟩
                replace h := bdi h _ ex17
                refine lv_iinc (v := x17) (lv' := [(5, .int x17), (7, .int s0), (0, .ref (ad o)), (1, .int v1), (2, .int v2), (3, .int v3), (4, .int v4), (6, .int v6)]) hx hb dX3_mostAlike_84 hl (k := 6) rfl (by rw [ex17]; rfl) (by decide) rfl (fun ls hl => ?_)
                have g := B87 v1 v2 v3 v4 x17 v6 h
                rw [hG] at g
                exact g H locs ls w (lv_sub hl [2, 3, 4, 5, 6, 0, 7] rfl)
          have B49 : ∀ (v1 : Int32) (v2 : Int32) (v3 : Int32) (v4 : Int32) (v5 : Int32) (v6 : Int32), f_X3_mostAlike_49 N S V o (f_X3_mostAlike_18 N S V o (f_X3_mostAlike_5 N S V o n5) n18) v1 v2 v3 v4 v5 v6 = some r → G 49 V [(0, .ref (ad o)), (1, .int v1), (2, .int v2), (3, .int v3), (4, .int v4), (5, .int v5), (6, .int v6)] [] := by
            intro v1 v2 v3 v4 v5 v6 h
            rw [hG]
            intro H locs ls w hl
            rw [f_X3_mostAlike_49] at h
            refine lv_iconst (v := 0) hx hb dX3_mostAlike_49 (by decide) ?_
            have g := B50 v1 v2 v3 v4 v5 v6 (0 : Int32) h
            rw [hG] at g
            exact g H locs ls w (lv_sub hl [0, 1, 2, 3, 4, 5, 6] rfl)
          intro v1 v2 v3 v4 v5 v6 h
          rw [hG]
          intro H locs ls w hl
          rw [f_X3_mostAlike_18] at h
          refine lv_iload hx hb dX3_mostAlike_18 (lv_at hl 6 rfl) ?_
          refine lv_bipush (v := 6) hx hb dX3_mostAlike_20 (by decide) ?_
          refine lv_icmp_ge (tgt := 93) hx hb dX3_mostAlike_22 (by decide) (fun c8 => ?_) (fun c8 => ?_)
          · replace h := ifT h c8
            refine lv_iload_n hx hb dX3_mostAlike_93 rfl (lv_at hl 3 rfl) ?_
            refine lv_iload hx hb dX3_mostAlike_94 (lv_at hl 5 rfl) ?_
            refine m_max (rest := []) X hl ml_X3_81 (Nat.le_of_ble_eq_true rfl) (Nat.le_of_ble_eq_true rfl) (Nat.le_of_ble_eq_true rfl) (Nat.le_of_ble_eq_true rfl) dX3_mostAlike_96 ?_
            refine lv_topi (fun x9 ex9 => ?_)
            replace h := bdi h _ ex9
            refine lv_istore_n (lv' := [(3, .int x9), (0, .ref (ad o)), (1, .int v1), (2, .int v2), (4, .int v4), (5, .int v5), (6, .int v6)]) hx hb dX3_mostAlike_99 rfl hl (by decide) rfl (fun ls hl => ?_)
            obtain ⟨x10, ex10⟩ : ∃ y : Int32, y = v4 + (1 : Int32) := ⟨_, rfl⟩
            replace h := bdi h _ ex10
            refine lv_iinc (v := x10) (lv' := [(4, .int x10), (3, .int x9), (0, .ref (ad o)), (1, .int v1), (2, .int v2), (5, .int v5), (6, .int v6)]) hx hb dX3_mostAlike_100 hl (k := 4) rfl (by rw [ex10]; rfl) (by decide) rfl (fun ls hl => ?_)
            refine lv_goto (tgt := 5) hx hb dX3_mostAlike_103 (by decide) ?_
            have g := ih5 v1 v2 x9 x10 h
            rw [hG] at g
            exact g H locs ls w (lv_sub hl [2, 3, 4, 1, 0] rfl)
          · replace h := ifF h c8
            refine lv_iload_n hx hb dX3_mostAlike_25 rfl (lv_at hl 2 rfl) ?_
            refine lv_iload hx hb dX3_mostAlike_26 (lv_at hl 4 rfl) ?_
            refine lv_ishr hx hb dX3_mostAlike_28 ?_
            refine lv_iconst (v := 1) hx hb dX3_mostAlike_29 (by decide) ?_
            refine lv_iand hx hb dX3_mostAlike_30 ?_
            refine lv_iconst (v := 1) hx hb dX3_mostAlike_31 (by decide) ?_
            refine lv_icmp_ne (tgt := 49) hx hb dX3_mostAlike_32 (by decide) (fun c11 => ?_) (fun c11 => ?_)
            · replace h := ifF h c11
              have g := B49 v1 v2 v3 v4 v5 v6 h
              rw [hG] at g
              exact g H locs ls w (lv_sub hl [0, 1, 2, 3, 4, 5, 6] rfl)
            · replace h := ifT h c11
              refine lv_iload_n hx hb dX3_mostAlike_35 rfl (lv_at hl 2 rfl) ?_
              refine lv_iload hx hb dX3_mostAlike_36 (lv_at hl 6 rfl) ?_
              refine lv_ishr hx hb dX3_mostAlike_38 ?_
              refine lv_iconst (v := 1) hx hb dX3_mostAlike_39 (by decide) ?_
              refine lv_iand hx hb dX3_mostAlike_40 ?_
              refine lv_iconst (v := 1) hx hb dX3_mostAlike_41 (by decide) ?_
              refine lv_icmp_ne (tgt := 49) hx hb dX3_mostAlike_42 (by decide) (fun c18 => ?_) (fun c18 => ?_)
              · replace h := ifF h c18
                have g := B49 v1 v2 v3 v4 v5 v6 h
                rw [hG] at g
                exact g H locs ls w (lv_sub hl [0, 1, 2, 3, 4, 5, 6] rfl)
              · replace h := ifT h c18
                refine lv_iconst (v := 1) hx hb dX3_mostAlike_45 (by decide) ?_
                refine lv_goto (tgt := 50) hx hb dX3_mostAlike_46 (by decide) ?_
                have g := B50 v1 v2 v3 v4 v5 v6 (1 : Int32) h
                rw [hG] at g
                exact g H locs ls w (lv_sub hl [0, 1, 2, 3, 4, 5, 6] rfl)
      intro v1 v2 v3 v4 h
      rw [hG]
      intro H locs ls w hl
      rw [f_X3_mostAlike_5] at h
      refine lv_iload hx hb dX3_mostAlike_5 (lv_at hl 4 rfl) ?_
      refine lv_bipush (v := 6) hx hb dX3_mostAlike_7 (by decide) ?_
      refine lv_icmp_ge (tgt := 106) hx hb dX3_mostAlike_9 (by decide) (fun c7 => ?_) (fun c7 => ?_)
      · replace h := ifT h c7
        refine lv_iload_n hx hb dX3_mostAlike_106 rfl (lv_at hl 3 rfl) ?_
        obtain rfl := Option.some.inj h
        exact m_ri X w hr hlocks dX3_mostAlike_107
      · replace h := ifF h c7
        refine lv_iconst (v := 0) hx hb dX3_mostAlike_12 (by decide) ?_
        refine lv_istore (lv' := [(5, .int (0 : Int32)), (0, .ref (ad o)), (1, .int v1), (2, .int v2), (3, .int v3), (4, .int v4)]) hx hb dX3_mostAlike_13 hl (by decide) rfl (fun ls hl => ?_)
        refine lv_iconst (v := 0) hx hb dX3_mostAlike_15 (by decide) ?_
        refine lv_istore (lv' := [(6, .int (0 : Int32)), (5, .int (0 : Int32)), (0, .ref (ad o)), (1, .int v1), (2, .int v2), (3, .int v3), (4, .int v4)]) hx hb dX3_mostAlike_16 hl (by decide) rfl (fun ls hl => ?_)
        have g := L18 N v1 v2 v3 v4 (0 : Int32) (0 : Int32) h
        rw [hG] at g
        exact g H locs ls w (lv_sub hl [2, 3, 4, 5, 6, 1, 0] rfl)
  rw [f_X3_mostAlike] at h
  refine lv_iconst (v := 0) hx hb dX3_mostAlike_0 (by decide) ?_
  refine lv_istore_n (lv' := [(3, .int (0 : Int32)), (0, .ref (ad o)), (1, .int a1), (2, .int a2)]) hx hb dX3_mostAlike_1 rfl hl (by decide) rfl (fun ls hl => ?_)
  refine lv_iconst (v := 0) hx hb dX3_mostAlike_2 (by decide) ?_
  refine lv_istore (lv' := [(4, .int (0 : Int32)), (3, .int (0 : Int32)), (0, .ref (ad o)), (1, .int a1), (2, .int a2)]) hx hb dX3_mostAlike_3 hl (by decide) rfl (fun ls hl => ?_)
  have g := L5 N a1 a2 (0 : Int32) (0 : Int32) h
  rw [hG] at g
  exact g H locs ls w (lv_sub hl [2, 3, 4, 1, 0] rfl)
def f_X4_push (N : Nat) (S : St) (V : Vt) (o : Nat) (a1 : Int32) : Option Vt := if (40 : Int32) ≤ (V.1 o 1) then some V else ck (V.1 o 1) 40 (bd (sA V (o + 1) (V.1 o 1).toNatClampNeg a1) (fun V6 => bd (sF V6 o 1 ((V6.1 o 1) + (1 : Int32))) (fun V7 => some V7)))
set_option maxHeartbeats 4000000 in
set_option maxRecDepth 100000 in
theorem c_X4_push (l : Launch) (D : va_G) (cy : Nat → ClassId) (ad : Nat → Nat) (A : Nat → Prop) (Kc : State → Prop) (C0 : Cx ad A Kc) (N : Nat) (S : St) (V : Vt) (o : Nat) (hs : shp S o t4) (a1 : Int32) (V' : Vt) (h : f_X4_push N S V o a1 = some V') : Met l yX4_push (mw yX4_push cX4_push 2 none) { frames := 0, cells := 0, slots := 0, locals := 0 } (PreM D cy ad Kc S V [.ref (ad o), .int a1]) (QV D cy ad A S V') 0 0 A := by
  refine ct_go C0 (own := RX4) rfl (by decide) rfl ?_
  intro p e s m below meth c ls H locs X hr hlocks hnm hl w
  have hx := X.1.1
  have hb := X.1.2.1
  have hown := X.2.1
  have hts := X.2.2.1
  have hl : lv_has ls 2 [(0, .ref (ad o)), (1, .int a1)] := hl
  rw [f_X4_push] at h
  refine lv_aload_n hx hb dX4_push_0 rfl (lv_at hl 0 rfl) ?_
  refine m_get X w o (shn hs 0 rfl) (shk hs 0 rfl : S.2.1 o = 4) ci4 1 (by decide) (fvI (shk hs 0 rfl : S.2.1 o = 4) rfl) rfl fl_X4_15 dX4_push_1 ?_
  refine lv_bipush (v := 40) hx hb dX4_push_4 (by decide) ?_
  refine lv_icmp_ge (tgt := 29) hx hb dX4_push_6 (by decide) (fun c4 => ?_) (fun c4 => ?_)
  · replace h := ifT h c4
    obtain rfl := Option.some.inj h
    exact m_rv X w hr hlocks dX4_push_29
  · replace h := ifF h c4
    refine lv_aload_n hx hb dX4_push_9 rfl (lv_at hl 0 rfl) ?_
    refine m_get X w o (shn hs 0 rfl) (shk hs 0 rfl : S.2.1 o = 4) ci4 0 (by decide) (fvR (shk hs 0 rfl : S.2.1 o = 4) rfl (shq hs 0 0 rfl rfl : S.2.2.2.1 o 0 = (o + 1) + 1)) rfl fl_X4_11 dX4_push_10 ?_
    refine lv_aload_n hx hb dX4_push_13 rfl (lv_at hl 0 rfl) ?_
    refine m_get X w o (shn hs 0 rfl) (shk hs 0 rfl : S.2.1 o = 4) ci4 1 (by decide) (fvI (shk hs 0 rfl : S.2.1 o = 4) rfl) rfl fl_X4_15 dX4_push_14 ?_
    refine lv_iload_n hx hb dX4_push_17 rfl (lv_at hl 1 rfl) ?_
    obtain ⟨g5, h⟩ := cki h
    refine m_iast X w (o + 1) (shn hs 1 rfl) (shk hs 1 rfl : S.2.1 (o + 1) = 11) (shz hs 1 rfl : S.2.2.1 (o + 1) = 40) g5 dX4_push_18 (fun V6 H locs eV6 w => ?_)
    replace h := bdi h _ eV6
    refine lv_aload_n hx hb dX4_push_19 rfl (lv_at hl 0 rfl) ?_
    refine lv_dup hx hb dX4_push_20 rfl ?_
    refine m_get X w o (shn hs 0 rfl) (shk hs 0 rfl : S.2.1 o = 4) ci4 1 (by decide) (fvI (shk hs 0 rfl : S.2.1 o = 4) rfl) rfl fl_X4_15 dX4_push_21 ?_
    refine lv_iconst (v := 1) hx hb dX4_push_24 (by decide) ?_
    refine lv_iadd hx hb dX4_push_25 ?_
    refine m_put X w o (shn hs 0 rfl) (shk hs 0 rfl : S.2.1 o = 4) ci4 1 (by decide) rfl rfl rfl rfl rfl fl_X4_15 dX4_push_26 (fun V7 H locs eV7 w => ?_)
    replace h := bdi h _ eV7
    obtain rfl := Option.some.inj h
    exact m_rv X w hr hlocks dX4_push_29
def f_X4_combine_199 (N : Nat) (S : St) (o : Nat) (V : Vt) (v6 : Int64) : Option (Int32 × Vt) := if 0 < (lg_cmp v6 (1000000000 : Int64)) then some ((0 : Int32), V) else if 0 ≤ (lg_cmp v6 (-1000000000 : Int64)) then bd (sF V o 1 ((V.1 o 1) - (1 : Int32))) (fun V22 => ck ((V22.1 o 1) - (1 : Int32)) 40 (bd (sA V22 (o + 1) ((V22.1 o 1) - (1 : Int32)).toNatClampNeg (v6.toInt32)) (fun V24 => some ((1 : Int32), V24)))) else some ((0 : Int32), V)
def f_X4_combine_124 (N : Nat) (S : St) (o : Nat) (V : Vt) (s0 : Int64) : Option (Int32 × Vt) := f_X4_combine_199 N S o V s0
def f_X4_combine_146 (N : Nat) (S : St) (o : Nat) (V : Vt) (s0 : Int64) : Option (Int32 × Vt) := f_X4_combine_199 N S o V s0
def f_X4_combine_163 (N : Nat) (S : St) (o : Nat) (V : Vt) (s0 : Int64) : Option (Int32 × Vt) := f_X4_combine_199 N S o V s0
def f_X4_combine_180 (N : Nat) (S : St) (o : Nat) (V : Vt) (s0 : Int64) : Option (Int32 × Vt) := f_X4_combine_199 N S o V s0
def f_X4_combine_197 (N : Nat) (S : St) (o : Nat) (V : Vt) (s0 : Int64) : Option (Int32 × Vt) := f_X4_combine_199 N S o V s0
def f_X4_combine (N : Nat) (S : St) (V : Vt) (o : Nat) (a1 : Int32) : Option (Int32 × Vt) := if (2 : Int32) ≤ (V.1 o 1) then ck ((V.1 o 1) - (2 : Int32)) 40 (bd ((V.2.1 (o + 1) ((V.1 o 1) - (2 : Int32)).toNatClampNeg).toInt64) (fun x15 => ck ((V.1 o 1) - (1 : Int32)) 40 (bd ((V.2.1 (o + 1) ((V.1 o 1) - (1 : Int32)).toNatClampNeg).toInt64) (fun x17 => if a1 = (3 : Int32) then bd (x15 + x17) (fun x19 => f_X4_combine_199 N S o V x19) else if a1 = (4 : Int32) then bd (x15 - x17) (fun x26 => f_X4_combine_199 N S o V x26) else if a1 = (5 : Int32) then bd (x15 * x17) (fun x28 => f_X4_combine_199 N S o V x28) else if a1 = (6 : Int32) then if (lg_cmp x17 (0 : Int64)) = 0 then f_X4_combine_124 N S o V (1000000001 : Int64) else czl x17 (f_X4_combine_124 N S o V (x15 / x17)) else if a1 = (7 : Int32) then if (lg_cmp x17 (0 : Int64)) = 0 then f_X4_combine_146 N S o V (1000000001 : Int64) else czl x17 (f_X4_combine_146 N S o V (x15 - x15 / x17 * x17)) else if a1 = (8 : Int32) then if 0 ≤ (lg_cmp x15 x17) then f_X4_combine_163 N S o V (0 : Int64) else f_X4_combine_163 N S o V (1 : Int64) else if a1 = (9 : Int32) then if (lg_cmp x15 x17) ≤ 0 then f_X4_combine_180 N S o V (0 : Int64) else f_X4_combine_180 N S o V (1 : Int64) else if (lg_cmp x15 x17) = 0 then f_X4_combine_197 N S o V (1 : Int64) else f_X4_combine_197 N S o V (0 : Int64))))) else some ((0 : Int32), V)
set_option maxHeartbeats 4000000 in
set_option maxRecDepth 100000 in
theorem c_X4_combine (l : Launch) (D : va_G) (cy : Nat → ClassId) (ad : Nat → Nat) (A : Nat → Prop) (Kc : State → Prop) (C0 : Cx ad A Kc) (N : Nat) (S : St) (V : Vt) (o : Nat) (hs : shp S o t4) (a1 : Int32) (r : Int32) (V' : Vt) (h : f_X4_combine N S V o a1 = some (r, V')) : Met l yX4_combine (mw yX4_combine cX4_combine 8 (some .boolean)) { frames := 0, cells := 0, slots := 0, locals := 0 } (PreM D cy ad Kc S V [.ref (ad o), .int a1]) (QI D cy ad A r S V') 0 0 A := by
  refine ct_go C0 (own := RX4) rfl (by decide) rfl ?_
  intro p e s m below meth c ls H locs X hr hlocks hnm hl w
  have hx := X.1.1
  have hb := X.1.2.1
  have hown := X.2.1
  have hts := X.2.2.1
  have hl : lv_has ls 8 [(0, .ref (ad o)), (1, .int a1)] := hl
  obtain ⟨G, hG⟩ : ∃ G : Nat → Vt → List (Nat × Value) → List Value → Prop, G = fun pc V lv st => ∀ (H : Heap) (locs : List Loc) (ls : Array Slot), Wd D cy ad A s.heap S V H locs → lv_has ls 8 lv → W p l e { frames := 0, cells := 0, slots := 0, locals := 0 } s m ([.ref (ad o), .int a1] : List Value).toArray below meth c H locs 0 0 (MQ below (QI D cy ad A r S V') ([.ref (ad o), .int a1] : List Value).toArray s 0 0 A) (F0 m pc ls st) := ⟨_, rfl⟩
  have B199 : ∀ (V : Vt) (v6 : Int64), f_X4_combine_199 N S o V v6 = some (r, V') → G 199 V [(0, .ref (ad o)), (6, .long v6)] [] := by
    intro V v6 h
    rw [hG]
    intro H locs ls w hl
    rw [f_X4_combine_199] at h
    refine lv_lload hx hb dX4_combine_199 (lv_at hl 1 rfl) ?_
    refine lv_ldc2 (v := 1000000000) hx hb hown (hts _ kl_X4_30) dX4_combine_201 ?_
    refine W.lcmp hx hb dX4_combine_204 ?_
    refine lv_if_gt (tgt := 217) hx hb dX4_combine_205 (by decide) (fun c20 => ?_) (fun c20 => ?_)
    · replace h := ifT h c20
      refine lv_iconst (v := 0) hx hb dX4_combine_217 (by decide) ?_
      obtain ⟨rfl, rfl⟩ := reti h
      exact m_rz X w hr rfl hlocks dX4_combine_218
    · replace h := ifF h c20
      refine lv_lload hx hb dX4_combine_208 (lv_at hl 1 rfl) ?_
      refine lv_ldc2 (v := (-1000000000)) hx hb hown (hts _ kl_X4_32) dX4_combine_210 ?_
      refine W.lcmp hx hb dX4_combine_213 ?_
      refine lv_if_ge (tgt := 219) hx hb dX4_combine_214 (by decide) (fun c21 => ?_) (fun c21 => ?_)
      · replace h := ifT h c21
        refine lv_aload_n hx hb dX4_combine_219 rfl (lv_at hl 0 rfl) ?_
        refine lv_dup hx hb dX4_combine_220 rfl ?_
        refine m_get X w o (shn hs 0 rfl) (shk hs 0 rfl : S.2.1 o = 4) ci4 1 (by decide) (fvI (shk hs 0 rfl : S.2.1 o = 4) rfl) rfl fl_X4_15 dX4_combine_221 ?_
        refine lv_iconst (v := 1) hx hb dX4_combine_224 (by decide) ?_
        refine lv_isub hx hb dX4_combine_225 ?_
        refine m_put X w o (shn hs 0 rfl) (shk hs 0 rfl : S.2.1 o = 4) ci4 1 (by decide) rfl rfl rfl rfl rfl fl_X4_15 dX4_combine_226 (fun V22 H locs eV22 w => ?_)
        replace h := bdi h _ eV22
        refine lv_aload_n hx hb dX4_combine_229 rfl (lv_at hl 0 rfl) ?_
        refine m_get X w o (shn hs 0 rfl) (shk hs 0 rfl : S.2.1 o = 4) ci4 0 (by decide) (fvR (shk hs 0 rfl : S.2.1 o = 4) rfl (shq hs 0 0 rfl rfl : S.2.2.2.1 o 0 = (o + 1) + 1)) rfl fl_X4_11 dX4_combine_230 ?_
        refine lv_aload_n hx hb dX4_combine_233 rfl (lv_at hl 0 rfl) ?_
        refine m_get X w o (shn hs 0 rfl) (shk hs 0 rfl : S.2.1 o = 4) ci4 1 (by decide) (fvI (shk hs 0 rfl : S.2.1 o = 4) rfl) rfl fl_X4_15 dX4_combine_234 ?_
        refine lv_iconst (v := 1) hx hb dX4_combine_237 (by decide) ?_
        refine lv_isub hx hb dX4_combine_238 ?_
        refine lv_lload hx hb dX4_combine_239 (lv_at hl 1 rfl) ?_
        refine lv_l2i hx hb dX4_combine_241 rfl ?_
        obtain ⟨g23, h⟩ := cki h
        refine m_iast X w (o + 1) (shn hs 1 rfl) (shk hs 1 rfl : S.2.1 (o + 1) = 11) (shz hs 1 rfl : S.2.2.1 (o + 1) = 40) g23 dX4_combine_242 (fun V24 H locs eV24 w => ?_)
        replace h := bdi h _ eV24
        refine lv_iconst (v := 1) hx hb dX4_combine_243 (by decide) ?_
        obtain ⟨rfl, rfl⟩ := reti h
        exact m_rz X w hr rfl hlocks dX4_combine_244
      · replace h := ifF h c21
        refine lv_iconst (v := 0) hx hb dX4_combine_217 (by decide) ?_
        obtain ⟨rfl, rfl⟩ := reti h
        exact m_rz X w hr rfl hlocks dX4_combine_218
  have B124 : ∀ (V : Vt) (s0 : Int64), f_X4_combine_124 N S o V s0 = some (r, V') → G 124 V [(0, .ref (ad o))] [.long s0] := by
    intro V s0 h
    rw [hG]
    intro H locs ls w hl
    rw [f_X4_combine_124] at h
    refine lv_lstore (lv' := [(6, .long s0), (0, .ref (ad o))]) hx hb dX4_combine_124 hl (by decide) rfl (fun ls hl => ?_)
    refine lv_goto (tgt := 199) hx hb dX4_combine_126 (by decide) ?_
    have g := B199 V s0 h
    rw [hG] at g
    exact g H locs ls w (lv_sub hl [1, 0] rfl)
  have B146 : ∀ (V : Vt) (s0 : Int64), f_X4_combine_146 N S o V s0 = some (r, V') → G 146 V [(0, .ref (ad o))] [.long s0] := by
    intro V s0 h
    rw [hG]
    intro H locs ls w hl
    rw [f_X4_combine_146] at h
    refine lv_lstore (lv' := [(6, .long s0), (0, .ref (ad o))]) hx hb dX4_combine_146 hl (by decide) rfl (fun ls hl => ?_)
    refine lv_goto (tgt := 199) hx hb dX4_combine_148 (by decide) ?_
    have g := B199 V s0 h
    rw [hG] at g
    exact g H locs ls w (lv_sub hl [1, 0] rfl)
  have B163 : ∀ (V : Vt) (s0 : Int64), f_X4_combine_163 N S o V s0 = some (r, V') → G 163 V [(0, .ref (ad o))] [.long s0] := by
    intro V s0 h
    rw [hG]
    intro H locs ls w hl
    rw [f_X4_combine_163] at h
    refine lv_lstore (lv' := [(6, .long s0), (0, .ref (ad o))]) hx hb dX4_combine_163 hl (by decide) rfl (fun ls hl => ?_)
    refine lv_goto (tgt := 199) hx hb dX4_combine_165 (by decide) ?_
    have g := B199 V s0 h
    rw [hG] at g
    exact g H locs ls w (lv_sub hl [1, 0] rfl)
  have B180 : ∀ (V : Vt) (s0 : Int64), f_X4_combine_180 N S o V s0 = some (r, V') → G 180 V [(0, .ref (ad o))] [.long s0] := by
    intro V s0 h
    rw [hG]
    intro H locs ls w hl
    rw [f_X4_combine_180] at h
    refine lv_lstore (lv' := [(6, .long s0), (0, .ref (ad o))]) hx hb dX4_combine_180 hl (by decide) rfl (fun ls hl => ?_)
    refine lv_goto (tgt := 199) hx hb dX4_combine_182 (by decide) ?_
    have g := B199 V s0 h
    rw [hG] at g
    exact g H locs ls w (lv_sub hl [1, 0] rfl)
  have B197 : ∀ (V : Vt) (s0 : Int64), f_X4_combine_197 N S o V s0 = some (r, V') → G 197 V [(0, .ref (ad o))] [.long s0] := by
    intro V s0 h
    rw [hG]
    intro H locs ls w hl
    rw [f_X4_combine_197] at h
    refine lv_lstore (lv' := [(6, .long s0), (0, .ref (ad o))]) hx hb dX4_combine_197 hl (by decide) rfl (fun ls hl => ?_)
    have g := B199 V s0 h
    rw [hG] at g
    exact g H locs ls w (lv_sub hl [1, 0] rfl)
  rw [f_X4_combine] at h
  refine lv_aload_n hx hb dX4_combine_0 rfl (lv_at hl 0 rfl) ?_
  refine m_get X w o (shn hs 0 rfl) (shk hs 0 rfl : S.2.1 o = 4) ci4 1 (by decide) (fvI (shk hs 0 rfl : S.2.1 o = 4) rfl) rfl fl_X4_15 dX4_combine_1 ?_
  refine lv_iconst (v := 2) hx hb dX4_combine_4 (by decide) ?_
  refine lv_icmp_ge (tgt := 10) hx hb dX4_combine_5 (by decide) (fun c13 => ?_) (fun c13 => ?_)
  · replace h := ifT h c13
    refine lv_aload_n hx hb dX4_combine_10 rfl (lv_at hl 0 rfl) ?_
    refine m_get X w o (shn hs 0 rfl) (shk hs 0 rfl : S.2.1 o = 4) ci4 0 (by decide) (fvR (shk hs 0 rfl : S.2.1 o = 4) rfl (shq hs 0 0 rfl rfl : S.2.2.2.1 o 0 = (o + 1) + 1)) rfl fl_X4_11 dX4_combine_11 ?_
    refine lv_aload_n hx hb dX4_combine_14 rfl (lv_at hl 0 rfl) ?_
    refine m_get X w o (shn hs 0 rfl) (shk hs 0 rfl : S.2.1 o = 4) ci4 1 (by decide) (fvI (shk hs 0 rfl : S.2.1 o = 4) rfl) rfl fl_X4_15 dX4_combine_15 ?_
    refine lv_iconst (v := 2) hx hb dX4_combine_18 (by decide) ?_
    refine lv_isub hx hb dX4_combine_19 ?_
    obtain ⟨g14, h⟩ := cki h
    refine m_iald X w (o + 1) (shn hs 1 rfl) (shk hs 1 rfl : S.2.1 (o + 1) = 11) (shz hs 1 rfl : S.2.2.1 (o + 1) = 40) g14 dX4_combine_20 ?_
    refine lv_i2l hx hb dX4_combine_21 rfl ?_
    refine lv_topl (fun x15 ex15 => ?_)
    replace h := bdi h _ ex15
    refine lv_lstore_n (lv' := [(2, .long x15), (0, .ref (ad o)), (1, .int a1)]) hx hb dX4_combine_22 rfl hl (by decide) rfl (fun ls hl => ?_)
    refine lv_aload_n hx hb dX4_combine_23 rfl (lv_at hl 1 rfl) ?_
    refine m_get X w o (shn hs 0 rfl) (shk hs 0 rfl : S.2.1 o = 4) ci4 0 (by decide) (fvR (shk hs 0 rfl : S.2.1 o = 4) rfl (shq hs 0 0 rfl rfl : S.2.2.2.1 o 0 = (o + 1) + 1)) rfl fl_X4_11 dX4_combine_24 ?_
    refine lv_aload_n hx hb dX4_combine_27 rfl (lv_at hl 1 rfl) ?_
    refine m_get X w o (shn hs 0 rfl) (shk hs 0 rfl : S.2.1 o = 4) ci4 1 (by decide) (fvI (shk hs 0 rfl : S.2.1 o = 4) rfl) rfl fl_X4_15 dX4_combine_28 ?_
    refine lv_iconst (v := 1) hx hb dX4_combine_31 (by decide) ?_
    refine lv_isub hx hb dX4_combine_32 ?_
    obtain ⟨g16, h⟩ := cki h
    refine m_iald X w (o + 1) (shn hs 1 rfl) (shk hs 1 rfl : S.2.1 (o + 1) = 11) (shz hs 1 rfl : S.2.2.1 (o + 1) = 40) g16 dX4_combine_33 ?_
    refine lv_i2l hx hb dX4_combine_34 rfl ?_
    refine lv_topl (fun x17 ex17 => ?_)
    replace h := bdi h _ ex17
    refine lv_lstore (lv' := [(4, .long x17), (2, .long x15), (0, .ref (ad o)), (1, .int a1)]) hx hb dX4_combine_35 hl (by decide) rfl (fun ls hl => ?_)
    refine lv_iload_n hx hb dX4_combine_37 rfl (lv_at hl 3 rfl) ?_
    rcases Decidable.em (a1 = (3 : Int32)) with c18 | c18
    · replace h := ifT h c18
      refine lv_tableIn (tgt := 80) hx hb dX4_combine_38 (by rw [c18]; decide) (by rw [c18]; decide) (by rw [c18]; rfl) (by decide) ?_
      refine lv_lload_n hx hb dX4_combine_80 rfl (lv_at hl 1 rfl) ?_
      refine lv_lload hx hb dX4_combine_81 (lv_at hl 0 rfl) ?_
      refine lv_ladd hx hb dX4_combine_83 ?_
      refine lv_topl (fun x19 ex19 => ?_)
      replace h := bdi h _ ex19
      refine lv_lstore (lv' := [(6, .long x19), (4, .long x17), (2, .long x15), (0, .ref (ad o)), (1, .int a1)]) hx hb dX4_combine_84 hl (by decide) rfl (fun ls hl => ?_)
      refine lv_goto (tgt := 199) hx hb dX4_combine_86 (by decide) ?_
      have g := B199 V x19 h
      rw [hG] at g
      exact g H locs ls w (lv_sub hl [3, 0] rfl)
    · replace h := ifF h c18
      rcases Decidable.em (a1 = (4 : Int32)) with c25 | c25
      · replace h := ifT h c25
        refine lv_tableIn (tgt := 89) hx hb dX4_combine_38 (by rw [c25]; decide) (by rw [c25]; decide) (by rw [c25]; rfl) (by decide) ?_
        refine lv_lload_n hx hb dX4_combine_89 rfl (lv_at hl 1 rfl) ?_
        refine lv_lload hx hb dX4_combine_90 (lv_at hl 0 rfl) ?_
        refine lv_lsub hx hb dX4_combine_92 ?_
        refine lv_topl (fun x26 ex26 => ?_)
        replace h := bdi h _ ex26
        refine lv_lstore (lv' := [(6, .long x26), (4, .long x17), (2, .long x15), (0, .ref (ad o)), (1, .int a1)]) hx hb dX4_combine_93 hl (by decide) rfl (fun ls hl => ?_)
        refine lv_goto (tgt := 199) hx hb dX4_combine_95 (by decide) ?_
        have g := B199 V x26 h
        rw [hG] at g
        exact g H locs ls w (lv_sub hl [3, 0] rfl)
      · replace h := ifF h c25
        rcases Decidable.em (a1 = (5 : Int32)) with c27 | c27
        · replace h := ifT h c27
          refine lv_tableIn (tgt := 98) hx hb dX4_combine_38 (by rw [c27]; decide) (by rw [c27]; decide) (by rw [c27]; rfl) (by decide) ?_
          refine lv_lload_n hx hb dX4_combine_98 rfl (lv_at hl 1 rfl) ?_
          refine lv_lload hx hb dX4_combine_99 (lv_at hl 0 rfl) ?_
          refine lv_lmul hx hb dX4_combine_101 ?_
          refine lv_topl (fun x28 ex28 => ?_)
          replace h := bdi h _ ex28
          refine lv_lstore (lv' := [(6, .long x28), (4, .long x17), (2, .long x15), (0, .ref (ad o)), (1, .int a1)]) hx hb dX4_combine_102 hl (by decide) rfl (fun ls hl => ?_)
          refine lv_goto (tgt := 199) hx hb dX4_combine_104 (by decide) ?_
          have g := B199 V x28 h
          rw [hG] at g
          exact g H locs ls w (lv_sub hl [3, 0] rfl)
        · replace h := ifF h c27
          rcases Decidable.em (a1 = (6 : Int32)) with c29 | c29
          · replace h := ifT h c29
            refine lv_tableIn (tgt := 107) hx hb dX4_combine_38 (by rw [c29]; decide) (by rw [c29]; decide) (by rw [c29]; rfl) (by decide) ?_
            refine lv_lload hx hb dX4_combine_107 (lv_at hl 0 rfl) ?_
            refine lv_lconst (v := 0) hx hb dX4_combine_109 (by decide) ?_
            refine W.lcmp hx hb dX4_combine_110 ?_
            refine lv_if_ne (tgt := 120) hx hb dX4_combine_111 (by decide) (fun c30 => ?_) (fun c30 => ?_)
            · replace h := ifF h c30
              refine lv_lload_n hx hb dX4_combine_120 rfl (lv_at hl 1 rfl) ?_
              refine lv_lload hx hb dX4_combine_121 (lv_at hl 0 rfl) ?_
              obtain ⟨g31, h⟩ := czli h
              refine lv_ldiv hx hb dX4_combine_123 g31 ?_
              have g := B124 V (x15 / x17) h
              rw [hG] at g
              exact g H locs ls w (lv_sub hl [2] rfl)
            · replace h := ifT h c30
              refine lv_ldc2 (v := 1000000001) hx hb hown (hts _ kl_X4_28) dX4_combine_114 ?_
              refine lv_goto (tgt := 124) hx hb dX4_combine_117 (by decide) ?_
              have g := B124 V (1000000001 : Int64) h
              rw [hG] at g
              exact g H locs ls w (lv_sub hl [2] rfl)
          · replace h := ifF h c29
            rcases Decidable.em (a1 = (7 : Int32)) with c32 | c32
            · replace h := ifT h c32
              refine lv_tableIn (tgt := 129) hx hb dX4_combine_38 (by rw [c32]; decide) (by rw [c32]; decide) (by rw [c32]; rfl) (by decide) ?_
              refine lv_lload hx hb dX4_combine_129 (lv_at hl 0 rfl) ?_
              refine lv_lconst (v := 0) hx hb dX4_combine_131 (by decide) ?_
              refine W.lcmp hx hb dX4_combine_132 ?_
              refine lv_if_ne (tgt := 142) hx hb dX4_combine_133 (by decide) (fun c33 => ?_) (fun c33 => ?_)
              · replace h := ifF h c33
                refine lv_lload_n hx hb dX4_combine_142 rfl (lv_at hl 1 rfl) ?_
                refine lv_lload hx hb dX4_combine_143 (lv_at hl 0 rfl) ?_
                obtain ⟨g34, h⟩ := czli h
                refine lv_lrem hx hb dX4_combine_145 g34 ?_
                have g := B146 V (x15 - x15 / x17 * x17) h
                rw [hG] at g
                exact g H locs ls w (lv_sub hl [2] rfl)
              · replace h := ifT h c33
                refine lv_ldc2 (v := 1000000001) hx hb hown (hts _ kl_X4_28) dX4_combine_136 ?_
                refine lv_goto (tgt := 146) hx hb dX4_combine_139 (by decide) ?_
                have g := B146 V (1000000001 : Int64) h
                rw [hG] at g
                exact g H locs ls w (lv_sub hl [2] rfl)
            · replace h := ifF h c32
              rcases Decidable.em (a1 = (8 : Int32)) with c35 | c35
              · replace h := ifT h c35
                refine lv_tableIn (tgt := 151) hx hb dX4_combine_38 (by rw [c35]; decide) (by rw [c35]; decide) (by rw [c35]; rfl) (by decide) ?_
                refine lv_lload_n hx hb dX4_combine_151 rfl (lv_at hl 1 rfl) ?_
                refine lv_lload hx hb dX4_combine_152 (lv_at hl 0 rfl) ?_
                refine W.lcmp hx hb dX4_combine_154 ?_
                refine lv_if_ge (tgt := 162) hx hb dX4_combine_155 (by decide) (fun c36 => ?_) (fun c36 => ?_)
                · replace h := ifT h c36
                  refine lv_lconst (v := 0) hx hb dX4_combine_162 (by decide) ?_
                  have g := B163 V (0 : Int64) h
                  rw [hG] at g
                  exact g H locs ls w (lv_sub hl [2] rfl)
                · replace h := ifF h c36
                  refine lv_lconst (v := 1) hx hb dX4_combine_158 (by decide) ?_
                  refine lv_goto (tgt := 163) hx hb dX4_combine_159 (by decide) ?_
                  have g := B163 V (1 : Int64) h
                  rw [hG] at g
                  exact g H locs ls w (lv_sub hl [2] rfl)
              · replace h := ifF h c35
                rcases Decidable.em (a1 = (9 : Int32)) with c37 | c37
                · replace h := ifT h c37
                  refine lv_tableIn (tgt := 168) hx hb dX4_combine_38 (by rw [c37]; decide) (by rw [c37]; decide) (by rw [c37]; rfl) (by decide) ?_
                  refine lv_lload_n hx hb dX4_combine_168 rfl (lv_at hl 1 rfl) ?_
                  refine lv_lload hx hb dX4_combine_169 (lv_at hl 0 rfl) ?_
                  refine W.lcmp hx hb dX4_combine_171 ?_
                  refine lv_if_le (tgt := 179) hx hb dX4_combine_172 (by decide) (fun c38 => ?_) (fun c38 => ?_)
                  · replace h := ifT h c38
                    refine lv_lconst (v := 0) hx hb dX4_combine_179 (by decide) ?_
                    have g := B180 V (0 : Int64) h
                    rw [hG] at g
                    exact g H locs ls w (lv_sub hl [2] rfl)
                  · replace h := ifF h c38
                    refine lv_lconst (v := 1) hx hb dX4_combine_175 (by decide) ?_
                    refine lv_goto (tgt := 180) hx hb dX4_combine_176 (by decide) ?_
                    have g := B180 V (1 : Int64) h
                    rw [hG] at g
                    exact g H locs ls w (lv_sub hl [2] rfl)
                · replace h := ifF h c37
                  refine lv_tableOut (tgt := 185) hx hb dX4_combine_38 (sw_out [(3 : Int32), (4 : Int32), (5 : Int32), (6 : Int32), (7 : Int32), (8 : Int32), (9 : Int32)] (by decide) (by intro q hq; simp only [List.mem_cons, List.not_mem_nil, or_false] at hq; rcases hq with rfl | rfl | rfl | rfl | rfl | rfl | rfl <;> assumption)) (by decide) ?_
                  refine lv_lload_n hx hb dX4_combine_185 rfl (lv_at hl 1 rfl) ?_
                  refine lv_lload hx hb dX4_combine_186 (lv_at hl 0 rfl) ?_
                  refine W.lcmp hx hb dX4_combine_188 ?_
                  refine lv_if_ne (tgt := 196) hx hb dX4_combine_189 (by decide) (fun c39 => ?_) (fun c39 => ?_)
                  · replace h := ifF h c39
                    refine lv_lconst (v := 0) hx hb dX4_combine_196 (by decide) ?_
                    have g := B197 V (0 : Int64) h
                    rw [hG] at g
                    exact g H locs ls w (lv_sub hl [2] rfl)
                  · replace h := ifT h c39
                    refine lv_lconst (v := 1) hx hb dX4_combine_192 (by decide) ?_
                    refine lv_goto (tgt := 197) hx hb dX4_combine_193 (by decide) ?_
                    have g := B197 V (1 : Int64) h
                    rw [hG] at g
                    exact g H locs ls w (lv_sub hl [2] rfl)
  · replace h := ifF h c13
    refine lv_iconst (v := 0) hx hb dX4_combine_8 (by decide) ?_
    obtain ⟨rfl, rfl⟩ := reti h
    exact m_rz X w hr rfl hlocks dX4_combine_9
def f_X5_fails (N : Nat) (S : St) (V : Vt) (o : Nat) : Option (Int32 × Vt) := bd (sF V o 8 (V.1 o 6)) (fun V2 => some ((0 : Int32), V2))
set_option maxHeartbeats 4000000 in
set_option maxRecDepth 100000 in
theorem c_X5_fails (l : Launch) (D : va_G) (cy : Nat → ClassId) (ad : Nat → Nat) (A : Nat → Prop) (Kc : State → Prop) (C0 : Cx ad A Kc) (N : Nat) (S : St) (V : Vt) (o : Nat) (hs : shp S o t5) (r : Int32) (V' : Vt) (h : f_X5_fails N S V o = some (r, V')) : Met l yX5_fails (mw yX5_fails cX5_fails 1 (some .boolean)) { frames := 0, cells := 0, slots := 0, locals := 0 } (PreM D cy ad Kc S V [.ref (ad o)]) (QI D cy ad A r S V') 0 0 A := by
  refine ct_go C0 (own := RX5) rfl (by decide) rfl ?_
  intro p e s m below meth c ls H locs X hr hlocks hnm hl w
  have hx := X.1.1
  have hb := X.1.2.1
  have hown := X.2.1
  have hts := X.2.2.1
  have hl : lv_has ls 1 [(0, .ref (ad o))] := hl
  rw [f_X5_fails] at h
  refine lv_aload_n hx hb dX5_fails_0 rfl (lv_at hl 0 rfl) ?_
  refine lv_aload_n hx hb dX5_fails_1 rfl (lv_at hl 0 rfl) ?_
  refine m_get X w o (shn hs 0 rfl) (shk hs 0 rfl : S.2.1 o = 5) ci5 6 (by decide) (fvI (shk hs 0 rfl : S.2.1 o = 5) rfl) rfl fl_X5_63 dX5_fails_2 ?_
  refine m_put X w o (shn hs 0 rfl) (shk hs 0 rfl : S.2.1 o = 5) ci5 8 (by decide) rfl rfl rfl rfl rfl fl_X5_26 dX5_fails_5 (fun V2 H locs eV2 w => ?_)
  replace h := bdi h _ eV2
  refine lv_iconst (v := 0) hx hb dX5_fails_8 (by decide) ?_
  obtain ⟨rfl, rfl⟩ := reti h
  exact m_rz X w hr rfl hlocks dX5_fails_9
def f_X5_put (N : Nat) (S : St) (V : Vt) (o : Nat) (a1 : Int32) (a2 : Int32) : Option (Int32 × Vt) := bd (V.1 o 10) (fun x5 => if (448 : Int32) ≤ x5 then some (x5, V) else ck x5 448 (bd (sA V (o + 3) x5.toNatClampNeg (a1 ||| (a2 <<< ((8 : Int32) &&& 31)))) (fun V8 => bd (sF V8 o 10 ((V8.1 o 10) + (1 : Int32))) (fun V9 => some (x5, V9)))))
set_option maxHeartbeats 4000000 in
set_option maxRecDepth 100000 in
theorem c_X5_put (l : Launch) (D : va_G) (cy : Nat → ClassId) (ad : Nat → Nat) (A : Nat → Prop) (Kc : State → Prop) (C0 : Cx ad A Kc) (N : Nat) (S : St) (V : Vt) (o : Nat) (hs : shp S o t5) (a1 : Int32) (a2 : Int32) (r : Int32) (V' : Vt) (h : f_X5_put N S V o a1 a2 = some (r, V')) : Met l yX5_put (mw yX5_put cX5_put 4 (some .int)) { frames := 0, cells := 0, slots := 0, locals := 0 } (PreM D cy ad Kc S V [.ref (ad o), .int a1, .int a2]) (QI D cy ad A r S V') 0 0 A := by
  refine ct_go C0 (own := RX5) rfl (by decide) rfl ?_
  intro p e s m below meth c ls H locs X hr hlocks hnm hl w
  have hx := X.1.1
  have hb := X.1.2.1
  have hown := X.2.1
  have hts := X.2.2.1
  have hl : lv_has ls 4 [(0, .ref (ad o)), (1, .int a1), (2, .int a2)] := hl
  rw [f_X5_put] at h
  refine lv_aload_n hx hb dX5_put_0 rfl (lv_at hl 0 rfl) ?_
  refine m_get X w o (shn hs 0 rfl) (shk hs 0 rfl : S.2.1 o = 5) ci5 10 (by decide) (fvI (shk hs 0 rfl : S.2.1 o = 5) rfl) rfl fl_X5_47 dX5_put_1 ?_
  refine lv_topi (fun x5 ex5 => ?_)
  replace h := bdi h _ ex5
  refine lv_istore_n (lv' := [(3, .int x5), (0, .ref (ad o)), (1, .int a1), (2, .int a2)]) hx hb dX5_put_4 rfl hl (by decide) rfl (fun ls hl => ?_)
  refine lv_iload_n hx hb dX5_put_5 rfl (lv_at hl 0 rfl) ?_
  refine lv_sipush (v := 448) hx hb dX5_put_6 (by decide) ?_
  refine lv_icmp_ge (tgt := 34) hx hb dX5_put_9 (by decide) (fun c6 => ?_) (fun c6 => ?_)
  · replace h := ifT h c6
    refine lv_iload_n hx hb dX5_put_34 rfl (lv_at hl 0 rfl) ?_
    obtain ⟨rfl, rfl⟩ := reti h
    exact m_ri X w hr hlocks dX5_put_35
  · replace h := ifF h c6
    refine lv_aload_n hx hb dX5_put_12 rfl (lv_at hl 1 rfl) ?_
    refine m_get X w o (shn hs 0 rfl) (shk hs 0 rfl : S.2.1 o = 5) ci5 2 (by decide) (fvR (shk hs 0 rfl : S.2.1 o = 5) rfl (shq hs 0 2 rfl rfl : S.2.2.2.1 o 2 = (o + 3) + 1)) rfl fl_X5_18 dX5_put_13 ?_
    refine lv_iload_n hx hb dX5_put_16 rfl (lv_at hl 0 rfl) ?_
    refine lv_iload_n hx hb dX5_put_17 rfl (lv_at hl 2 rfl) ?_
    refine lv_iload_n hx hb dX5_put_18 rfl (lv_at hl 3 rfl) ?_
    refine lv_bipush (v := 8) hx hb dX5_put_19 (by decide) ?_
    refine lv_ishl hx hb dX5_put_21 ?_
    refine lv_ior hx hb dX5_put_22 ?_
    obtain ⟨g7, h⟩ := cki h
    refine m_iast X w (o + 3) (shn hs 3 rfl) (shk hs 3 rfl : S.2.1 (o + 3) = 11) (shz hs 3 rfl : S.2.2.1 (o + 3) = 448) g7 dX5_put_23 (fun V8 H locs eV8 w => ?_)
    replace h := bdi h _ eV8
    refine lv_aload_n hx hb dX5_put_24 rfl (lv_at hl 1 rfl) ?_
    refine lv_dup hx hb dX5_put_25 rfl ?_
    refine m_get X w o (shn hs 0 rfl) (shk hs 0 rfl : S.2.1 o = 5) ci5 10 (by decide) (fvI (shk hs 0 rfl : S.2.1 o = 5) rfl) rfl fl_X5_47 dX5_put_26 ?_
    refine lv_iconst (v := 1) hx hb dX5_put_29 (by decide) ?_
    refine lv_iadd hx hb dX5_put_30 ?_
    refine m_put X w o (shn hs 0 rfl) (shk hs 0 rfl : S.2.1 o = 5) ci5 10 (by decide) rfl rfl rfl rfl rfl fl_X5_47 dX5_put_31 (fun V9 H locs eV9 w => ?_)
    replace h := bdi h _ eV9
    refine lv_iload_n hx hb dX5_put_34 rfl (lv_at hl 0 rfl) ?_
    obtain ⟨rfl, rfl⟩ := reti h
    exact m_ri X w hr hlocks dX5_put_35
def f_X5_land (N : Nat) (S : St) (V : Vt) (o : Nat) (a1 : Int32) : Option Vt := if (V.1 o 10) ≤ a1 then some V else ck a1 448 (ck a1 448 (bd (sA V (o + 3) a1.toNatClampNeg ((V.2.1 (o + 3) a1.toNatClampNeg) ||| ((V.1 o 10) <<< ((8 : Int32) &&& 31)))) (fun V7 => some V7)))
set_option maxHeartbeats 4000000 in
set_option maxRecDepth 100000 in
theorem c_X5_land (l : Launch) (D : va_G) (cy : Nat → ClassId) (ad : Nat → Nat) (A : Nat → Prop) (Kc : State → Prop) (C0 : Cx ad A Kc) (N : Nat) (S : St) (V : Vt) (o : Nat) (hs : shp S o t5) (a1 : Int32) (V' : Vt) (h : f_X5_land N S V o a1 = some V') : Met l yX5_land (mw yX5_land cX5_land 2 none) { frames := 0, cells := 0, slots := 0, locals := 0 } (PreM D cy ad Kc S V [.ref (ad o), .int a1]) (QV D cy ad A S V') 0 0 A := by
  refine ct_go C0 (own := RX5) rfl (by decide) rfl ?_
  intro p e s m below meth c ls H locs X hr hlocks hnm hl w
  have hx := X.1.1
  have hb := X.1.2.1
  have hown := X.2.1
  have hts := X.2.2.1
  have hl : lv_has ls 2 [(0, .ref (ad o)), (1, .int a1)] := hl
  rw [f_X5_land] at h
  refine lv_iload_n hx hb dX5_land_0 rfl (lv_at hl 1 rfl) ?_
  refine lv_aload_n hx hb dX5_land_1 rfl (lv_at hl 0 rfl) ?_
  refine m_get X w o (shn hs 0 rfl) (shk hs 0 rfl : S.2.1 o = 5) ci5 10 (by decide) (fvI (shk hs 0 rfl : S.2.1 o = 5) rfl) rfl fl_X5_47 dX5_land_2 ?_
  refine lv_icmp_ge (tgt := 24) hx hb dX5_land_5 (by decide) (fun c4 => ?_) (fun c4 => ?_)
  · replace h := ifT h c4
    obtain rfl := Option.some.inj h
    exact m_rv X w hr hlocks dX5_land_24
  · replace h := ifF h c4
    refine lv_aload_n hx hb dX5_land_8 rfl (lv_at hl 0 rfl) ?_
    refine m_get X w o (shn hs 0 rfl) (shk hs 0 rfl : S.2.1 o = 5) ci5 2 (by decide) (fvR (shk hs 0 rfl : S.2.1 o = 5) rfl (shq hs 0 2 rfl rfl : S.2.2.2.1 o 2 = (o + 3) + 1)) rfl fl_X5_18 dX5_land_9 ?_
    refine lv_iload_n hx hb dX5_land_12 rfl (lv_at hl 1 rfl) ?_
    refine lv_dup2_11 hx hb dX5_land_13 rfl rfl ?_
    obtain ⟨g5, h⟩ := cki h
    refine m_iald X w (o + 3) (shn hs 3 rfl) (shk hs 3 rfl : S.2.1 (o + 3) = 11) (shz hs 3 rfl : S.2.2.1 (o + 3) = 448) g5 dX5_land_14 ?_
    refine lv_aload_n hx hb dX5_land_15 rfl (lv_at hl 0 rfl) ?_
    refine m_get X w o (shn hs 0 rfl) (shk hs 0 rfl : S.2.1 o = 5) ci5 10 (by decide) (fvI (shk hs 0 rfl : S.2.1 o = 5) rfl) rfl fl_X5_47 dX5_land_16 ?_
    refine lv_bipush (v := 8) hx hb dX5_land_19 (by decide) ?_
    refine lv_ishl hx hb dX5_land_21 ?_
    refine lv_ior hx hb dX5_land_22 ?_
    obtain ⟨g6, h⟩ := cki h
    refine m_iast X w (o + 3) (shn hs 3 rfl) (shk hs 3 rfl : S.2.1 (o + 3) = 11) (shz hs 3 rfl : S.2.2.1 (o + 3) = 448) g6 dX5_land_23 (fun V7 H locs eV7 w => ?_)
    replace h := bdi h _ eV7
    obtain rfl := Option.some.inj h
    exact m_rv X w hr hlocks dX5_land_24
def f_X5_kindOfByte_22 (N : Nat) (v0 : Int32) : Option Int32 := if v0 < (48 : Int32) then some (3 : Int32) else if (57 : Int32) < v0 then some (3 : Int32) else some (2 : Int32)
def f_X5_kindOfByte (N : Nat) (a1 : Int32) : Option Int32 := if a1 = (32 : Int32) then some (0 : Int32) else if a1 < (97 : Int32) then f_X5_kindOfByte_22 N a1 else if (122 : Int32) < a1 then f_X5_kindOfByte_22 N a1 else some (1 : Int32)
set_option maxHeartbeats 4000000 in
set_option maxRecDepth 100000 in
theorem c_X5_kindOfByte (l : Launch) (D : va_G) (cy : Nat → ClassId) (ad : Nat → Nat) (A : Nat → Prop) (Kc : State → Prop) (C0 : Cx ad A Kc) (N : Nat) (S : St) (V : Vt) (a1 : Int32) (r : Int32) (h : f_X5_kindOfByte N a1 = some r) : Met l yX5_kindOfByte (mw yX5_kindOfByte cX5_kindOfByte 1 (some .int)) { frames := 0, cells := 0, slots := 0, locals := 0 } (PreM D cy ad Kc S V [.int a1]) (QI D cy ad A r S V) 0 0 A := by
  refine ct_go C0 (own := RX5) rfl (by decide) rfl ?_
  intro p e s m below meth c ls H locs X hr hlocks hnm hl w
  have hx := X.1.1
  have hb := X.1.2.1
  have hown := X.2.1
  have hts := X.2.2.1
  have hl : lv_has ls 1 [(0, .int a1)] := hl
  obtain ⟨G, hG⟩ : ∃ G : Nat → Vt → List (Nat × Value) → List Value → Prop, G = fun pc V lv st => ∀ (H : Heap) (locs : List Loc) (ls : Array Slot), Wd D cy ad A s.heap S V H locs → lv_has ls 1 lv → W p l e { frames := 0, cells := 0, slots := 0, locals := 0 } s m ([.int a1] : List Value).toArray below meth c H locs 0 0 (MQ below (QI D cy ad A r S V) ([.int a1] : List Value).toArray s 0 0 A) (F0 m pc ls st) := ⟨_, rfl⟩
  have B22 : ∀ (v0 : Int32), f_X5_kindOfByte_22 N v0 = some r → G 22 V [(0, .int v0)] [] := by
    intro v0 h
    rw [hG]
    intro H locs ls w hl
    rw [f_X5_kindOfByte_22] at h
    refine lv_iload_n hx hb dX5_kindOfByte_22 rfl (lv_at hl 0 rfl) ?_
    refine lv_bipush (v := 48) hx hb dX5_kindOfByte_23 (by decide) ?_
    refine lv_icmp_lt (tgt := 38) hx hb dX5_kindOfByte_25 (by decide) (fun c3 => ?_) (fun c3 => ?_)
    · replace h := ifT h c3
      refine lv_iconst (v := 3) hx hb dX5_kindOfByte_38 (by decide) ?_
      obtain rfl := Option.some.inj h
      exact m_ri X w hr hlocks dX5_kindOfByte_39
    · replace h := ifF h c3
      refine lv_iload_n hx hb dX5_kindOfByte_28 rfl (lv_at hl 0 rfl) ?_
      refine lv_bipush (v := 57) hx hb dX5_kindOfByte_29 (by decide) ?_
      refine lv_icmp_gt (tgt := 38) hx hb dX5_kindOfByte_31 (by decide) (fun c4 => ?_) (fun c4 => ?_)
      · replace h := ifT h c4
        refine lv_iconst (v := 3) hx hb dX5_kindOfByte_38 (by decide) ?_
        obtain rfl := Option.some.inj h
        exact m_ri X w hr hlocks dX5_kindOfByte_39
      · replace h := ifF h c4
        refine lv_iconst (v := 2) hx hb dX5_kindOfByte_34 (by decide) ?_
        refine lv_goto (tgt := 39) hx hb dX5_kindOfByte_35 (by decide) ?_
        obtain rfl := Option.some.inj h
        exact m_ri X w hr hlocks dX5_kindOfByte_39
  rw [f_X5_kindOfByte] at h
  refine lv_iload_n hx hb dX5_kindOfByte_0 rfl (lv_at hl 0 rfl) ?_
  refine lv_bipush (v := 32) hx hb dX5_kindOfByte_1 (by decide) ?_
  refine lv_icmp_ne (tgt := 8) hx hb dX5_kindOfByte_3 (by decide) (fun c1 => ?_) (fun c1 => ?_)
  · replace h := ifF h c1
    refine lv_iload_n hx hb dX5_kindOfByte_8 rfl (lv_at hl 0 rfl) ?_
    refine lv_bipush (v := 97) hx hb dX5_kindOfByte_9 (by decide) ?_
    refine lv_icmp_lt (tgt := 22) hx hb dX5_kindOfByte_11 (by decide) (fun c2 => ?_) (fun c2 => ?_)
    · replace h := ifT h c2
      have g := B22 a1 h
      rw [hG] at g
      exact g H locs ls w (lv_sub hl [0] rfl)
    · replace h := ifF h c2
      refine lv_iload_n hx hb dX5_kindOfByte_14 rfl (lv_at hl 0 rfl) ?_
      refine lv_bipush (v := 122) hx hb dX5_kindOfByte_15 (by decide) ?_
      refine lv_icmp_gt (tgt := 22) hx hb dX5_kindOfByte_17 (by decide) (fun c5 => ?_) (fun c5 => ?_)
      · replace h := ifT h c5
        have g := B22 a1 h
        rw [hG] at g
        exact g H locs ls w (lv_sub hl [0] rfl)
      · replace h := ifF h c5
        refine lv_iconst (v := 1) hx hb dX5_kindOfByte_20 (by decide) ?_
        obtain rfl := Option.some.inj h
        exact m_ri X w hr hlocks dX5_kindOfByte_21
  · replace h := ifT h c1
    refine lv_iconst (v := 0) hx hb dX5_kindOfByte_6 (by decide) ?_
    obtain rfl := Option.some.inj h
    exact m_ri X w hr hlocks dX5_kindOfByte_7
def f_X5_move_44 (N : Nat) (S : St) (o : Nat) : Nat → Vt → Int32 → Option Vt
  | 0, _, _ => none
  | n + 1, V, v1 => if (V.1 o 5) ≤ v1 then bd (sF V o 7 v1) (fun V16 => some V16) else ck v1 400 (ck (V.1 o 6) 400 (if (V.2.1 (o + 2) v1.toNatClampNeg) = (V.2.1 (o + 2) (V.1 o 6).toNatClampNeg) then ck v1 400 (if (V.2.1 (o + 2) v1.toNatClampNeg) = (3 : Int32) then bd (sF V o 7 v1) (fun V23 => some V23) else bd (v1 + (1 : Int32)) (fun x24 => (f_X5_move_44 N S o n) V x24)) else bd (sF V o 7 v1) (fun V20 => some V20)))
def f_X5_move_28 (N : Nat) (S : St) (o : Nat) (V : Vt) (v1 : Int32) : Option Vt := bd (sF V o 6 v1) (fun V13 => if (V13.1 o 5) ≤ v1 then f_X5_move_44 N S o N V13 v1 else bd (v1 + (1 : Int32)) (fun x25 => f_X5_move_44 N S o N V13 x25))
def f_X5_move_5 (N : Nat) (S : St) (o : Nat) : Nat → Vt → Int32 → Option Vt
  | 0, _, _ => none
  | n + 1, V, v1 => if (V.1 o 5) ≤ v1 then f_X5_move_28 N S o V v1 else ck v1 400 (if (V.2.1 (o + 2) v1.toNatClampNeg) = 0 then bd (v1 + (1 : Int32)) (fun x28 => (f_X5_move_5 N S o n) V x28) else f_X5_move_28 N S o V v1)
def f_X5_move (N : Nat) (S : St) (V : Vt) (o : Nat) : Option Vt := bd (V.1 o 7) (fun x11 => f_X5_move_5 N S o N V x11)
set_option maxHeartbeats 4000000 in
set_option maxRecDepth 100000 in
theorem c_X5_move (l : Launch) (D : va_G) (cy : Nat → ClassId) (ad : Nat → Nat) (A : Nat → Prop) (Kc : State → Prop) (C0 : Cx ad A Kc) (N : Nat) (S : St) (V : Vt) (o : Nat) (hs : shp S o t5) (V' : Vt) (h : f_X5_move N S V o = some V') : Met l yX5_move (mw yX5_move cX5_move 2 none) { frames := 0, cells := 0, slots := 0, locals := 0 } (PreM D cy ad Kc S V [.ref (ad o)]) (QV D cy ad A S V') 0 0 A := by
  refine ct_go C0 (own := RX5) rfl (by decide) rfl ?_
  intro p e s m below meth c ls H locs X hr hlocks hnm hl w
  have hx := X.1.1
  have hb := X.1.2.1
  have hown := X.2.1
  have hts := X.2.2.1
  have hl : lv_has ls 2 [(0, .ref (ad o))] := hl
  obtain ⟨G, hG⟩ : ∃ G : Nat → Vt → List (Nat × Value) → List Value → Prop, G = fun pc V lv st => ∀ (H : Heap) (locs : List Loc) (ls : Array Slot), Wd D cy ad A s.heap S V H locs → lv_has ls 2 lv → W p l e { frames := 0, cells := 0, slots := 0, locals := 0 } s m ([.ref (ad o)] : List Value).toArray below meth c H locs 0 0 (MQ below (QV D cy ad A S V') ([.ref (ad o)] : List Value).toArray s 0 0 A) (F0 m pc ls st) := ⟨_, rfl⟩
  have L44 : ∀ (n44 : Nat) (V : Vt) (v1 : Int32), f_X5_move_44 N S o n44 V v1 = some V' → G 44 V [(0, .ref (ad o)), (1, .int v1)] [] := by
    intro n44
    induction n44 with
    | zero => intro V v1 h; rw [f_X5_move_44] at h; cases h
    | succ n44 ih44 =>
      intro V v1 h
      rw [hG]
      intro H locs ls w hl
      rw [f_X5_move_44] at h
      refine lv_iload_n hx hb dX5_move_44 rfl (lv_at hl 1 rfl) ?_
      refine lv_aload_n hx hb dX5_move_45 rfl (lv_at hl 0 rfl) ?_
      refine m_get X w o (shn hs 0 rfl) (shk hs 0 rfl : S.2.1 o = 5) ci5 5 (by decide) (fvI (shk hs 0 rfl : S.2.1 o = 5) rfl) rfl fl_X5_38 dX5_move_46 ?_
      refine lv_icmp_ge (tgt := 86) hx hb dX5_move_49 (by decide) (fun c15 => ?_) (fun c15 => ?_)
      · replace h := ifT h c15
        refine lv_aload_n hx hb dX5_move_86 rfl (lv_at hl 0 rfl) ?_
        refine lv_iload_n hx hb dX5_move_87 rfl (lv_at hl 1 rfl) ?_
        refine m_put X w o (shn hs 0 rfl) (shk hs 0 rfl : S.2.1 o = 5) ci5 7 (by decide) rfl rfl rfl rfl rfl fl_X5_41 dX5_move_88 (fun V16 H locs eV16 w => ?_)
        replace h := bdi h _ eV16
        obtain rfl := Option.some.inj h
        exact m_rv X w hr hlocks dX5_move_91
      · replace h := ifF h c15
        refine lv_aload_n hx hb dX5_move_52 rfl (lv_at hl 0 rfl) ?_
        refine m_get X w o (shn hs 0 rfl) (shk hs 0 rfl : S.2.1 o = 5) ci5 1 (by decide) (fvR (shk hs 0 rfl : S.2.1 o = 5) rfl (shq hs 0 1 rfl rfl : S.2.2.2.1 o 1 = (o + 2) + 1)) rfl fl_X5_15 dX5_move_53 ?_
        refine lv_iload_n hx hb dX5_move_56 rfl (lv_at hl 1 rfl) ?_
        obtain ⟨g17, h⟩ := cki h
        refine m_iald X w (o + 2) (shn hs 2 rfl) (shk hs 2 rfl : S.2.1 (o + 2) = 11) (shz hs 2 rfl : S.2.2.1 (o + 2) = 400) g17 dX5_move_57 ?_
        refine lv_aload_n hx hb dX5_move_58 rfl (lv_at hl 0 rfl) ?_
        refine m_get X w o (shn hs 0 rfl) (shk hs 0 rfl : S.2.1 o = 5) ci5 1 (by decide) (fvR (shk hs 0 rfl : S.2.1 o = 5) rfl (shq hs 0 1 rfl rfl : S.2.2.2.1 o 1 = (o + 2) + 1)) rfl fl_X5_15 dX5_move_59 ?_
        refine lv_aload_n hx hb dX5_move_62 rfl (lv_at hl 0 rfl) ?_
        refine m_get X w o (shn hs 0 rfl) (shk hs 0 rfl : S.2.1 o = 5) ci5 6 (by decide) (fvI (shk hs 0 rfl : S.2.1 o = 5) rfl) rfl fl_X5_63 dX5_move_63 ?_
        obtain ⟨g18, h⟩ := cki h
        refine m_iald X w (o + 2) (shn hs 2 rfl) (shk hs 2 rfl : S.2.1 (o + 2) = 11) (shz hs 2 rfl : S.2.2.1 (o + 2) = 400) g18 dX5_move_66 ?_
        refine lv_icmp_ne (tgt := 86) hx hb dX5_move_67 (by decide) (fun c19 => ?_) (fun c19 => ?_)
        · replace h := ifF h c19
          refine lv_aload_n hx hb dX5_move_86 rfl (lv_at hl 0 rfl) ?_
          refine lv_iload_n hx hb dX5_move_87 rfl (lv_at hl 1 rfl) ?_
          refine m_put X w o (shn hs 0 rfl) (shk hs 0 rfl : S.2.1 o = 5) ci5 7 (by decide) rfl rfl rfl rfl rfl fl_X5_41 dX5_move_88 (fun V20 H locs eV20 w => ?_)
          replace h := bdi h _ eV20
          obtain rfl := Option.some.inj h
          exact m_rv X w hr hlocks dX5_move_91
        · replace h := ifT h c19
          refine lv_aload_n hx hb dX5_move_70 rfl (lv_at hl 0 rfl) ?_
          refine m_get X w o (shn hs 0 rfl) (shk hs 0 rfl : S.2.1 o = 5) ci5 1 (by decide) (fvR (shk hs 0 rfl : S.2.1 o = 5) rfl (shq hs 0 1 rfl rfl : S.2.2.2.1 o 1 = (o + 2) + 1)) rfl fl_X5_15 dX5_move_71 ?_
          refine lv_iload_n hx hb dX5_move_74 rfl (lv_at hl 1 rfl) ?_
          obtain ⟨g21, h⟩ := cki h
          refine m_iald X w (o + 2) (shn hs 2 rfl) (shk hs 2 rfl : S.2.1 (o + 2) = 11) (shz hs 2 rfl : S.2.2.1 (o + 2) = 400) g21 dX5_move_75 ?_
          refine lv_iconst (v := 3) hx hb dX5_move_76 (by decide) ?_
          refine lv_icmp_eq (tgt := 86) hx hb dX5_move_77 (by decide) (fun c22 => ?_) (fun c22 => ?_)
          · replace h := ifT h c22
            refine lv_aload_n hx hb dX5_move_86 rfl (lv_at hl 0 rfl) ?_
            refine lv_iload_n hx hb dX5_move_87 rfl (lv_at hl 1 rfl) ?_
            refine m_put X w o (shn hs 0 rfl) (shk hs 0 rfl : S.2.1 o = 5) ci5 7 (by decide) rfl rfl rfl rfl rfl fl_X5_41 dX5_move_88 (fun V23 H locs eV23 w => ?_)
            replace h := bdi h _ eV23
            obtain rfl := Option.some.inj h
            exact m_rv X w hr hlocks dX5_move_91
          · replace h := ifF h c22
            obtain ⟨x24, ex24⟩ : ∃ y : Int32, y = v1 + (1 : Int32) := ⟨_, rfl⟩
            replace h := bdi h _ ex24
            refine lv_iinc (v := x24) (lv' := [(1, .int x24), (0, .ref (ad o))]) hx hb dX5_move_80 hl (k := 1) rfl (by rw [ex24]; rfl) (by decide) rfl (fun ls hl => ?_)
            refine lv_goto (tgt := 44) hx hb dX5_move_83 (by decide) ?_
            have g := ih44 V x24 h
            rw [hG] at g
            exact g H locs ls w (lv_sub hl [1, 0] rfl)
  have B28 : ∀ (V : Vt) (v1 : Int32), f_X5_move_28 N S o V v1 = some V' → G 28 V [(0, .ref (ad o)), (1, .int v1)] [] := by
    intro V v1 h
    rw [hG]
    intro H locs ls w hl
    rw [f_X5_move_28] at h
    refine lv_aload_n hx hb dX5_move_28 rfl (lv_at hl 0 rfl) ?_
    refine lv_iload_n hx hb dX5_move_29 rfl (lv_at hl 1 rfl) ?_
    refine m_put X w o (shn hs 0 rfl) (shk hs 0 rfl : S.2.1 o = 5) ci5 6 (by decide) rfl rfl rfl rfl rfl fl_X5_63 dX5_move_30 (fun V13 H locs eV13 w => ?_)
    replace h := bdi h _ eV13
    refine lv_iload_n hx hb dX5_move_33 rfl (lv_at hl 1 rfl) ?_
    refine lv_aload_n hx hb dX5_move_34 rfl (lv_at hl 0 rfl) ?_
    refine m_get X w o (shn hs 0 rfl) (shk hs 0 rfl : S.2.1 o = 5) ci5 5 (by decide) (fvI (shk hs 0 rfl : S.2.1 o = 5) rfl) rfl fl_X5_38 dX5_move_35 ?_
    refine lv_icmp_ge (tgt := 44) hx hb dX5_move_38 (by decide) (fun c14 => ?_) (fun c14 => ?_)
    · replace h := ifT h c14
      have g := L44 N V13 v1 h
      rw [hG] at g
      exact g H locs ls w (lv_sub hl [0, 1] rfl)
    · replace h := ifF h c14
      obtain ⟨x25, ex25⟩ : ∃ y : Int32, y = v1 + (1 : Int32) := ⟨_, rfl⟩
      replace h := bdi h _ ex25
      refine lv_iinc (v := x25) (lv' := [(1, .int x25), (0, .ref (ad o))]) hx hb dX5_move_41 hl (k := 1) rfl (by rw [ex25]; rfl) (by decide) rfl (fun ls hl => ?_)
      have g := L44 N V13 x25 h
      rw [hG] at g
      exact g H locs ls w (lv_sub hl [1, 0] rfl)
  have L5 : ∀ (n5 : Nat) (V : Vt) (v1 : Int32), f_X5_move_5 N S o n5 V v1 = some V' → G 5 V [(0, .ref (ad o)), (1, .int v1)] [] := by
    intro n5
    induction n5 with
    | zero => intro V v1 h; rw [f_X5_move_5] at h; cases h
    | succ n5 ih5 =>
      intro V v1 h
      rw [hG]
      intro H locs ls w hl
      rw [f_X5_move_5] at h
      refine lv_iload_n hx hb dX5_move_5 rfl (lv_at hl 1 rfl) ?_
      refine lv_aload_n hx hb dX5_move_6 rfl (lv_at hl 0 rfl) ?_
      refine m_get X w o (shn hs 0 rfl) (shk hs 0 rfl : S.2.1 o = 5) ci5 5 (by decide) (fvI (shk hs 0 rfl : S.2.1 o = 5) rfl) rfl fl_X5_38 dX5_move_7 ?_
      refine lv_icmp_ge (tgt := 28) hx hb dX5_move_10 (by decide) (fun c12 => ?_) (fun c12 => ?_)
      · replace h := ifT h c12
        have g := B28 V v1 h
        rw [hG] at g
        exact g H locs ls w (lv_sub hl [0, 1] rfl)
      · replace h := ifF h c12
        refine lv_aload_n hx hb dX5_move_13 rfl (lv_at hl 0 rfl) ?_
        refine m_get X w o (shn hs 0 rfl) (shk hs 0 rfl : S.2.1 o = 5) ci5 1 (by decide) (fvR (shk hs 0 rfl : S.2.1 o = 5) rfl (shq hs 0 1 rfl rfl : S.2.2.2.1 o 1 = (o + 2) + 1)) rfl fl_X5_15 dX5_move_14 ?_
        refine lv_iload_n hx hb dX5_move_17 rfl (lv_at hl 1 rfl) ?_
        obtain ⟨g26, h⟩ := cki h
        refine m_iald X w (o + 2) (shn hs 2 rfl) (shk hs 2 rfl : S.2.1 (o + 2) = 11) (shz hs 2 rfl : S.2.2.1 (o + 2) = 400) g26 dX5_move_18 ?_
        refine lv_if_ne (tgt := 28) hx hb dX5_move_19 (by decide) (fun c27 => ?_) (fun c27 => ?_)
        · replace h := ifF h c27
          have g := B28 V v1 h
          rw [hG] at g
          exact g H locs ls w (lv_sub hl [0, 1] rfl)
        · replace h := ifT h c27
          obtain ⟨x28, ex28⟩ : ∃ y : Int32, y = v1 + (1 : Int32) := ⟨_, rfl⟩
          replace h := bdi h _ ex28
          refine lv_iinc (v := x28) (lv' := [(1, .int x28), (0, .ref (ad o))]) hx hb dX5_move_22 hl (k := 1) rfl (by rw [ex28]; rfl) (by decide) rfl (fun ls hl => ?_)
          refine lv_goto (tgt := 5) hx hb dX5_move_25 (by decide) ?_
          have g := ih5 V x28 h
          rw [hG] at g
          exact g H locs ls w (lv_sub hl [1, 0] rfl)
  rw [f_X5_move] at h
  refine lv_aload_n hx hb dX5_move_0 rfl (lv_at hl 0 rfl) ?_
  refine m_get X w o (shn hs 0 rfl) (shk hs 0 rfl : S.2.1 o = 5) ci5 7 (by decide) (fvI (shk hs 0 rfl : S.2.1 o = 5) rfl) rfl fl_X5_41 dX5_move_1 ?_
  refine lv_topi (fun x11 ex11 => ?_)
  replace h := bdi h _ ex11
  refine lv_istore_n (lv' := [(1, .int x11), (0, .ref (ad o))]) hx hb dX5_move_4 rfl hl (by decide) rfl (fun ls hl => ?_)
  have g := L5 N V x11 h
  rw [hG] at g
  exact g H locs ls w (lv_sub hl [1, 0] rfl)
def f_X5_numberTo_33 (N : Nat) (S : St) (V : Vt) (o : Nat) : Nat → Int32 → Int32 → Int32 → Option Int32
  | 0, _, _, _ => none
  | n + 1, v1, v2, v3 => if (V.1 o 7) ≤ v3 then if v1 < v2 then some (-1 : Int32) else some v2 else ck v3 400 (bd (mnI ((((10 : Int32) * v2) + (V.2.1 (o + 1) v3.toNatClampNeg)) - (48 : Int32)) (1001 : Int32)) (fun x13 => bd (v3 + (1 : Int32)) (fun x14 => (f_X5_numberTo_33 N S V o n) v1 x13 x14)))
def f_X5_numberTo (N : Nat) (S : St) (V : Vt) (o : Nat) (a1 : Int32) : Option Int32 := if (V.1 o 5) ≤ (V.1 o 6) then some (-1 : Int32) else ck (V.1 o 6) 400 (if (V.2.1 (o + 2) (V.1 o 6).toNatClampNeg) = (2 : Int32) then bd (V.1 o 6) (fun x9 => f_X5_numberTo_33 N S V o N a1 (0 : Int32) x9) else some (-1 : Int32))
set_option maxHeartbeats 4000000 in
set_option maxRecDepth 100000 in
theorem c_X5_numberTo (l : Launch) (D : va_G) (cy : Nat → ClassId) (ad : Nat → Nat) (A : Nat → Prop) (Kc : State → Prop) (C0 : Cx ad A Kc) (N : Nat) (S : St) (V : Vt) (o : Nat) (hs : shp S o t5) (a1 : Int32) (r : Int32) (h : f_X5_numberTo N S V o a1 = some r) : Met l yX5_numberTo (mw yX5_numberTo cX5_numberTo 4 (some .int)) { frames := 1, cells := 0, slots := 0, locals := 40 } (PreM D cy ad Kc S V [.ref (ad o), .int a1]) (QI D cy ad A r S V) 0 0 A := by
  refine ct_go C0 (own := RX5) rfl (by decide) rfl ?_
  intro p e s m below meth c ls H locs X hr hlocks hnm hl w
  have hx := X.1.1
  have hb := X.1.2.1
  have hown := X.2.1
  have hts := X.2.2.1
  have hl : lv_has ls 4 [(0, .ref (ad o)), (1, .int a1)] := hl
  obtain ⟨G, hG⟩ : ∃ G : Nat → Vt → List (Nat × Value) → List Value → Prop, G = fun pc V lv st => ∀ (H : Heap) (locs : List Loc) (ls : Array Slot), Wd D cy ad A s.heap S V H locs → lv_has ls 4 lv → W p l e { frames := 1, cells := 0, slots := 0, locals := 40 } s m ([.ref (ad o), .int a1] : List Value).toArray below meth c H locs 0 0 (MQ below (QI D cy ad A r S V) ([.ref (ad o), .int a1] : List Value).toArray s 0 0 A) (F0 m pc ls st) := ⟨_, rfl⟩
  have L33 : ∀ (n33 : Nat) (v1 : Int32) (v2 : Int32) (v3 : Int32), f_X5_numberTo_33 N S V o n33 v1 v2 v3 = some r → G 33 V [(0, .ref (ad o)), (1, .int v1), (2, .int v2), (3, .int v3)] [] := by
    intro n33
    induction n33 with
    | zero => intro v1 v2 v3 h; rw [f_X5_numberTo_33] at h; cases h
    | succ n33 ih33 =>
      intro v1 v2 v3 h
      rw [hG]
      intro H locs ls w hl
      rw [f_X5_numberTo_33] at h
      refine lv_iload_n hx hb dX5_numberTo_33 rfl (lv_at hl 3 rfl) ?_
      refine lv_aload_n hx hb dX5_numberTo_34 rfl (lv_at hl 0 rfl) ?_
      refine m_get X w o (shn hs 0 rfl) (shk hs 0 rfl : S.2.1 o = 5) ci5 7 (by decide) (fvI (shk hs 0 rfl : S.2.1 o = 5) rfl) rfl fl_X5_41 dX5_numberTo_35 ?_
      refine lv_icmp_ge (tgt := 68) hx hb dX5_numberTo_38 (by decide) (fun c10 => ?_) (fun c10 => ?_)
      · replace h := ifT h c10
        refine lv_iload_n hx hb dX5_numberTo_68 rfl (lv_at hl 2 rfl) ?_
        refine lv_iload_n hx hb dX5_numberTo_69 rfl (lv_at hl 1 rfl) ?_
        refine lv_icmp_gt (tgt := 77) hx hb dX5_numberTo_70 (by decide) (fun c11 => ?_) (fun c11 => ?_)
        · replace h := ifT h c11
          refine lv_iconst (v := (-1)) hx hb dX5_numberTo_77 (by decide) ?_
          obtain rfl := Option.some.inj h
          exact m_ri X w hr hlocks dX5_numberTo_78
        · replace h := ifF h c11
          refine lv_iload_n hx hb dX5_numberTo_73 rfl (lv_at hl 2 rfl) ?_
          refine lv_goto (tgt := 78) hx hb dX5_numberTo_74 (by decide) ?_
          obtain rfl := Option.some.inj h
          exact m_ri X w hr hlocks dX5_numberTo_78
      · replace h := ifF h c10
        refine lv_bipush (v := 10) hx hb dX5_numberTo_41 (by decide) ?_
        refine lv_iload_n hx hb dX5_numberTo_43 rfl (lv_at hl 2 rfl) ?_
        refine lv_imul hx hb dX5_numberTo_44 ?_
        refine lv_aload_n hx hb dX5_numberTo_45 rfl (lv_at hl 0 rfl) ?_
        refine m_get X w o (shn hs 0 rfl) (shk hs 0 rfl : S.2.1 o = 5) ci5 0 (by decide) (fvR (shk hs 0 rfl : S.2.1 o = 5) rfl (shq hs 0 0 rfl rfl : S.2.2.2.1 o 0 = (o + 1) + 1)) rfl fl_X5_9 dX5_numberTo_46 ?_
        refine lv_iload_n hx hb dX5_numberTo_49 rfl (lv_at hl 3 rfl) ?_
        obtain ⟨g12, h⟩ := cki h
        refine m_iald X w (o + 1) (shn hs 1 rfl) (shk hs 1 rfl : S.2.1 (o + 1) = 11) (shz hs 1 rfl : S.2.2.1 (o + 1) = 400) g12 dX5_numberTo_50 ?_
        refine lv_iadd hx hb dX5_numberTo_51 ?_
        refine lv_bipush (v := 48) hx hb dX5_numberTo_52 (by decide) ?_
        refine lv_isub hx hb dX5_numberTo_54 ?_
        refine lv_sipush (v := 1001) hx hb dX5_numberTo_55 (by decide) ?_
        refine m_min (rest := []) X hl ml_X5_182 (Nat.le_of_ble_eq_true rfl) (Nat.le_of_ble_eq_true rfl) (Nat.le_of_ble_eq_true rfl) (Nat.le_of_ble_eq_true rfl) dX5_numberTo_58 ?_
        refine lv_topi (fun x13 ex13 => ?_)
        replace h := bdi h _ ex13
        refine lv_istore_n (lv' := [(2, .int x13), (0, .ref (ad o)), (1, .int v1), (3, .int v3)]) hx hb dX5_numberTo_61 rfl hl (by decide) rfl (fun ls hl => ?_)
        obtain ⟨x14, ex14⟩ : ∃ y : Int32, y = v3 + (1 : Int32) := ⟨_, rfl⟩
        replace h := bdi h _ ex14
        refine lv_iinc (v := x14) (lv' := [(3, .int x14), (2, .int x13), (0, .ref (ad o)), (1, .int v1)]) hx hb dX5_numberTo_62 hl (k := 3) rfl (by rw [ex14]; rfl) (by decide) rfl (fun ls hl => ?_)
        refine lv_goto (tgt := 33) hx hb dX5_numberTo_65 (by decide) ?_
        have g := ih33 v1 x13 x14 h
        rw [hG] at g
        exact g H locs ls w (lv_sub hl [2, 3, 1, 0] rfl)
  rw [f_X5_numberTo] at h
  refine lv_aload_n hx hb dX5_numberTo_0 rfl (lv_at hl 0 rfl) ?_
  refine m_get X w o (shn hs 0 rfl) (shk hs 0 rfl : S.2.1 o = 5) ci5 6 (by decide) (fvI (shk hs 0 rfl : S.2.1 o = 5) rfl) rfl fl_X5_63 dX5_numberTo_1 ?_
  refine lv_aload_n hx hb dX5_numberTo_4 rfl (lv_at hl 0 rfl) ?_
  refine m_get X w o (shn hs 0 rfl) (shk hs 0 rfl : S.2.1 o = 5) ci5 5 (by decide) (fvI (shk hs 0 rfl : S.2.1 o = 5) rfl) rfl fl_X5_38 dX5_numberTo_5 ?_
  refine lv_icmp_ge (tgt := 24) hx hb dX5_numberTo_8 (by decide) (fun c6 => ?_) (fun c6 => ?_)
  · replace h := ifT h c6
    refine lv_iconst (v := (-1)) hx hb dX5_numberTo_24 (by decide) ?_
    obtain rfl := Option.some.inj h
    exact m_ri X w hr hlocks dX5_numberTo_25
  · replace h := ifF h c6
    refine lv_aload_n hx hb dX5_numberTo_11 rfl (lv_at hl 0 rfl) ?_
    refine m_get X w o (shn hs 0 rfl) (shk hs 0 rfl : S.2.1 o = 5) ci5 1 (by decide) (fvR (shk hs 0 rfl : S.2.1 o = 5) rfl (shq hs 0 1 rfl rfl : S.2.2.2.1 o 1 = (o + 2) + 1)) rfl fl_X5_15 dX5_numberTo_12 ?_
    refine lv_aload_n hx hb dX5_numberTo_15 rfl (lv_at hl 0 rfl) ?_
    refine m_get X w o (shn hs 0 rfl) (shk hs 0 rfl : S.2.1 o = 5) ci5 6 (by decide) (fvI (shk hs 0 rfl : S.2.1 o = 5) rfl) rfl fl_X5_63 dX5_numberTo_16 ?_
    obtain ⟨g7, h⟩ := cki h
    refine m_iald X w (o + 2) (shn hs 2 rfl) (shk hs 2 rfl : S.2.1 (o + 2) = 11) (shz hs 2 rfl : S.2.2.1 (o + 2) = 400) g7 dX5_numberTo_19 ?_
    refine lv_iconst (v := 2) hx hb dX5_numberTo_20 (by decide) ?_
    refine lv_icmp_eq (tgt := 26) hx hb dX5_numberTo_21 (by decide) (fun c8 => ?_) (fun c8 => ?_)
    · replace h := ifT h c8
      refine lv_iconst (v := 0) hx hb dX5_numberTo_26 (by decide) ?_
      refine lv_istore_n (lv' := [(2, .int (0 : Int32)), (0, .ref (ad o)), (1, .int a1)]) hx hb dX5_numberTo_27 rfl hl (by decide) rfl (fun ls hl => ?_)
      refine lv_aload_n hx hb dX5_numberTo_28 rfl (lv_at hl 1 rfl) ?_
      refine m_get X w o (shn hs 0 rfl) (shk hs 0 rfl : S.2.1 o = 5) ci5 6 (by decide) (fvI (shk hs 0 rfl : S.2.1 o = 5) rfl) rfl fl_X5_63 dX5_numberTo_29 ?_
      refine lv_topi (fun x9 ex9 => ?_)
      replace h := bdi h _ ex9
      refine lv_istore_n (lv' := [(3, .int x9), (2, .int (0 : Int32)), (0, .ref (ad o)), (1, .int a1)]) hx hb dX5_numberTo_32 rfl hl (by decide) rfl (fun ls hl => ?_)
      have g := L33 N a1 (0 : Int32) x9 h
      rw [hG] at g
      exact g H locs ls w (lv_sub hl [2, 3, 1, 0] rfl)
    · replace h := ifF h c8
      refine lv_iconst (v := (-1)) hx hb dX5_numberTo_24 (by decide) ?_
      obtain rfl := Option.some.inj h
      exact m_ri X w hr hlocks dX5_numberTo_25
def f_X7_kindOf (N : Nat) (S : St) (V : Vt) (o : Nat) (a1 : Int32) : Option Int32 := ck ((6 : Int32) * a1) (S.2.2.1 (o + 2)) (some (V.2.1 (o + 2) ((6 : Int32) * a1).toNatClampNeg))
set_option maxHeartbeats 4000000 in
set_option maxRecDepth 100000 in
theorem c_X7_kindOf (l : Launch) (D : va_G) (cy : Nat → ClassId) (ad : Nat → Nat) (A : Nat → Prop) (Kc : State → Prop) (C0 : Cx ad A Kc) (N : Nat) (S : St) (V : Vt) (o : Nat) (hs_o : tsh S o) (a1 : Int32) (r : Int32) (h : f_X7_kindOf N S V o a1 = some r) : Met l yX7_kindOf (mw yX7_kindOf cX7_kindOf 2 (some .int)) { frames := 0, cells := 0, slots := 0, locals := 0 } (PreM D cy ad Kc S V [.ref (ad o), .int a1]) (QI D cy ad A r S V) 0 0 A := by
  refine ct_go C0 (own := RX7) rfl (by decide) rfl ?_
  intro p e s m below meth c ls H locs X hr hlocks hnm hl w
  have hx := X.1.1
  have hb := X.1.2.1
  have hown := X.2.1
  have hts := X.2.2.1
  have hl : lv_has ls 2 [(0, .ref (ad o)), (1, .int a1)] := hl
  rw [f_X7_kindOf] at h
  refine lv_aload_n hx hb dX7_kindOf_0 rfl (lv_at hl 0 rfl) ?_
  refine m_get X w o (Nat.lt_of_le_of_lt (Nat.le_add_right o 2) hs_o.1.1) hs_o.1.2 ci7 1 (by decide) (fvR hs_o.1.2 rfl hs_o.2.1.2) rfl fl_X7_13 dX7_kindOf_1 ?_
  refine lv_bipush (v := 6) hx hb dX7_kindOf_4 (by decide) ?_
  refine lv_iload_n hx hb dX7_kindOf_6 rfl (lv_at hl 1 rfl) ?_
  refine lv_imul hx hb dX7_kindOf_7 ?_
  obtain ⟨g2, h⟩ := cki h
  refine m_iald X w (o + 2) hs_o.1.1 hs_o.2.2.2 rfl g2 dX7_kindOf_8 ?_
  obtain rfl := Option.some.inj h
  exact m_ri X w hr hlocks dX7_kindOf_9
def f_X7_timesOf (N : Nat) (S : St) (V : Vt) (o : Nat) (a1 : Int32) : Option Int32 := ck (((6 : Int32) * a1) + (1 : Int32)) (S.2.2.1 (o + 2)) (some (V.2.1 (o + 2) (((6 : Int32) * a1) + (1 : Int32)).toNatClampNeg))
set_option maxHeartbeats 4000000 in
set_option maxRecDepth 100000 in
theorem c_X7_timesOf (l : Launch) (D : va_G) (cy : Nat → ClassId) (ad : Nat → Nat) (A : Nat → Prop) (Kc : State → Prop) (C0 : Cx ad A Kc) (N : Nat) (S : St) (V : Vt) (o : Nat) (hs_o : tsh S o) (a1 : Int32) (r : Int32) (h : f_X7_timesOf N S V o a1 = some r) : Met l yX7_timesOf (mw yX7_timesOf cX7_timesOf 2 (some .int)) { frames := 0, cells := 0, slots := 0, locals := 0 } (PreM D cy ad Kc S V [.ref (ad o), .int a1]) (QI D cy ad A r S V) 0 0 A := by
  refine ct_go C0 (own := RX7) rfl (by decide) rfl ?_
  intro p e s m below meth c ls H locs X hr hlocks hnm hl w
  have hx := X.1.1
  have hb := X.1.2.1
  have hown := X.2.1
  have hts := X.2.2.1
  have hl : lv_has ls 2 [(0, .ref (ad o)), (1, .int a1)] := hl
  rw [f_X7_timesOf] at h
  refine lv_aload_n hx hb dX7_timesOf_0 rfl (lv_at hl 0 rfl) ?_
  refine m_get X w o (Nat.lt_of_le_of_lt (Nat.le_add_right o 2) hs_o.1.1) hs_o.1.2 ci7 1 (by decide) (fvR hs_o.1.2 rfl hs_o.2.1.2) rfl fl_X7_13 dX7_timesOf_1 ?_
  refine lv_bipush (v := 6) hx hb dX7_timesOf_4 (by decide) ?_
  refine lv_iload_n hx hb dX7_timesOf_6 rfl (lv_at hl 1 rfl) ?_
  refine lv_imul hx hb dX7_timesOf_7 ?_
  refine lv_iconst (v := 1) hx hb dX7_timesOf_8 (by decide) ?_
  refine lv_iadd hx hb dX7_timesOf_9 ?_
  obtain ⟨g2, h⟩ := cki h
  refine m_iald X w (o + 2) hs_o.1.1 hs_o.2.2.2 rfl g2 dX7_timesOf_10 ?_
  obtain rfl := Option.some.inj h
  exact m_ri X w hr hlocks dX7_timesOf_11
def f_X7_sumPlace (N : Nat) (S : St) (V : Vt) (o : Nat) (a1 : Int32) (a2 : Int32) : Option Int32 := ck ((((6 : Int32) * a1) + (2 : Int32)) + a2) (S.2.2.1 (o + 2)) (some (V.2.1 (o + 2) ((((6 : Int32) * a1) + (2 : Int32)) + a2).toNatClampNeg))
set_option maxHeartbeats 4000000 in
set_option maxRecDepth 100000 in
theorem c_X7_sumPlace (l : Launch) (D : va_G) (cy : Nat → ClassId) (ad : Nat → Nat) (A : Nat → Prop) (Kc : State → Prop) (C0 : Cx ad A Kc) (N : Nat) (S : St) (V : Vt) (o : Nat) (hs_o : tsh S o) (a1 : Int32) (a2 : Int32) (r : Int32) (h : f_X7_sumPlace N S V o a1 a2 = some r) : Met l yX7_sumPlace (mw yX7_sumPlace cX7_sumPlace 3 (some .int)) { frames := 0, cells := 0, slots := 0, locals := 0 } (PreM D cy ad Kc S V [.ref (ad o), .int a1, .int a2]) (QI D cy ad A r S V) 0 0 A := by
  refine ct_go C0 (own := RX7) rfl (by decide) rfl ?_
  intro p e s m below meth c ls H locs X hr hlocks hnm hl w
  have hx := X.1.1
  have hb := X.1.2.1
  have hown := X.2.1
  have hts := X.2.2.1
  have hl : lv_has ls 3 [(0, .ref (ad o)), (1, .int a1), (2, .int a2)] := hl
  rw [f_X7_sumPlace] at h
  refine lv_aload_n hx hb dX7_sumPlace_0 rfl (lv_at hl 0 rfl) ?_
  refine m_get X w o (Nat.lt_of_le_of_lt (Nat.le_add_right o 2) hs_o.1.1) hs_o.1.2 ci7 1 (by decide) (fvR hs_o.1.2 rfl hs_o.2.1.2) rfl fl_X7_13 dX7_sumPlace_1 ?_
  refine lv_bipush (v := 6) hx hb dX7_sumPlace_4 (by decide) ?_
  refine lv_iload_n hx hb dX7_sumPlace_6 rfl (lv_at hl 1 rfl) ?_
  refine lv_imul hx hb dX7_sumPlace_7 ?_
  refine lv_iconst (v := 2) hx hb dX7_sumPlace_8 (by decide) ?_
  refine lv_iadd hx hb dX7_sumPlace_9 ?_
  refine lv_iload_n hx hb dX7_sumPlace_10 rfl (lv_at hl 2 rfl) ?_
  refine lv_iadd hx hb dX7_sumPlace_11 ?_
  obtain ⟨g2, h⟩ := cki h
  refine m_iald X w (o + 2) hs_o.1.1 hs_o.2.2.2 rfl g2 dX7_sumPlace_12 ?_
  obtain rfl := Option.some.inj h
  exact m_ri X w hr hlocks dX7_sumPlace_13
def f_X7_testPlace (N : Nat) (S : St) (V : Vt) (o : Nat) (a1 : Int32) : Option Int32 := ck (((6 : Int32) * a1) + (5 : Int32)) (S.2.2.1 (o + 2)) (some (V.2.1 (o + 2) (((6 : Int32) * a1) + (5 : Int32)).toNatClampNeg))
set_option maxHeartbeats 4000000 in
set_option maxRecDepth 100000 in
theorem c_X7_testPlace (l : Launch) (D : va_G) (cy : Nat → ClassId) (ad : Nat → Nat) (A : Nat → Prop) (Kc : State → Prop) (C0 : Cx ad A Kc) (N : Nat) (S : St) (V : Vt) (o : Nat) (hs_o : tsh S o) (a1 : Int32) (r : Int32) (h : f_X7_testPlace N S V o a1 = some r) : Met l yX7_testPlace (mw yX7_testPlace cX7_testPlace 2 (some .int)) { frames := 0, cells := 0, slots := 0, locals := 0 } (PreM D cy ad Kc S V [.ref (ad o), .int a1]) (QI D cy ad A r S V) 0 0 A := by
  refine ct_go C0 (own := RX7) rfl (by decide) rfl ?_
  intro p e s m below meth c ls H locs X hr hlocks hnm hl w
  have hx := X.1.1
  have hb := X.1.2.1
  have hown := X.2.1
  have hts := X.2.2.1
  have hl : lv_has ls 2 [(0, .ref (ad o)), (1, .int a1)] := hl
  rw [f_X7_testPlace] at h
  refine lv_aload_n hx hb dX7_testPlace_0 rfl (lv_at hl 0 rfl) ?_
  refine m_get X w o (Nat.lt_of_le_of_lt (Nat.le_add_right o 2) hs_o.1.1) hs_o.1.2 ci7 1 (by decide) (fvR hs_o.1.2 rfl hs_o.2.1.2) rfl fl_X7_13 dX7_testPlace_1 ?_
  refine lv_bipush (v := 6) hx hb dX7_testPlace_4 (by decide) ?_
  refine lv_iload_n hx hb dX7_testPlace_6 rfl (lv_at hl 1 rfl) ?_
  refine lv_imul hx hb dX7_testPlace_7 ?_
  refine lv_iconst (v := 5) hx hb dX7_testPlace_8 (by decide) ?_
  refine lv_iadd hx hb dX7_testPlace_9 ?_
  obtain ⟨g2, h⟩ := cki h
  refine m_iald X w (o + 2) hs_o.1.1 hs_o.2.2.2 rfl g2 dX7_testPlace_10 ?_
  obtain rfl := Option.some.inj h
  exact m_ri X w hr hlocks dX7_testPlace_11
def f_X8_smudges (N : Nat) (S : St) (V : Vt) (o : Nat) : Option Int32 := some (V.1 o 16)
set_option maxHeartbeats 4000000 in
set_option maxRecDepth 100000 in
theorem c_X8_smudges (l : Launch) (D : va_G) (cy : Nat → ClassId) (ad : Nat → Nat) (A : Nat → Prop) (Kc : State → Prop) (C0 : Cx ad A Kc) (N : Nat) (S : St) (V : Vt) (o : Nat) (hs : shp S o t8) (r : Int32) (h : f_X8_smudges N S V o = some r) : Met l yX8_smudges (mw yX8_smudges cX8_smudges 1 (some .int)) { frames := 0, cells := 0, slots := 0, locals := 0 } (PreM D cy ad Kc S V [.ref (ad o)]) (QI D cy ad A r S V) 0 0 A := by
  refine ct_go C0 (own := RX8) rfl (by decide) rfl ?_
  intro p e s m below meth c ls H locs X hr hlocks hnm hl w
  have hx := X.1.1
  have hb := X.1.2.1
  have hown := X.2.1
  have hts := X.2.2.1
  have hl : lv_has ls 1 [(0, .ref (ad o))] := hl
  rw [f_X8_smudges] at h
  refine lv_aload_n hx hb dX8_smudges_0 rfl (lv_at hl 0 rfl) ?_
  refine m_get X w o (shn hs 0 rfl) (shk hs 0 rfl : S.2.1 o = 8) ci8 16 (by decide) (fvI (shk hs 0 rfl : S.2.1 o = 8) rfl) rfl fl_X8_166 dX8_smudges_1 ?_
  obtain rfl := Option.some.inj h
  exact m_ri X w hr hlocks dX8_smudges_4
def f_X8_fault (N : Nat) (S : St) (V : Vt) (o : Nat) : Option Int32 := some (V.1 (o + 37) 8)
set_option maxHeartbeats 4000000 in
set_option maxRecDepth 100000 in
theorem c_X8_fault (l : Launch) (D : va_G) (cy : Nat → ClassId) (ad : Nat → Nat) (A : Nat → Prop) (Kc : State → Prop) (C0 : Cx ad A Kc) (N : Nat) (S : St) (V : Vt) (o : Nat) (hs : shp S o t8) (r : Int32) (h : f_X8_fault N S V o = some r) : Met l yX8_fault (mw yX8_fault cX8_fault 1 (some .int)) { frames := 0, cells := 0, slots := 0, locals := 0 } (PreM D cy ad Kc S V [.ref (ad o)]) (QI D cy ad A r S V) 0 0 A := by
  refine ct_go C0 (own := RX8) rfl (by decide) rfl ?_
  intro p e s m below meth c ls H locs X hr hlocks hnm hl w
  have hx := X.1.1
  have hb := X.1.2.1
  have hown := X.2.1
  have hts := X.2.2.1
  have hl : lv_has ls 1 [(0, .ref (ad o))] := hl
  rw [f_X8_fault] at h
  refine lv_aload_n hx hb dX8_fault_0 rfl (lv_at hl 0 rfl) ?_
  refine m_get X w o (shn hs 0 rfl) (shk hs 0 rfl : S.2.1 o = 8) ci8 7 (by decide) (fvR (shk hs 0 rfl : S.2.1 o = 8) rfl (shq hs 0 7 rfl rfl : S.2.2.2.1 o 7 = (o + 37) + 1)) rfl fl_X8_43 dX8_fault_1 ?_
  refine m_getN X w (o + 37) (shn hs 37 rfl) (shk hs 37 rfl : S.2.1 (o + 37) = 5) ci5 8 (by decide) (fvI (shk hs 37 rfl : S.2.1 (o + 37) = 5) rfl) rfl nf_X8_191 dX8_fault_4 ?_
  obtain rfl := Option.some.inj h
  exact m_ri X w hr hlocks dX8_fault_7
def f_X8_stopped (N : Nat) (S : St) (V : Vt) (o : Nat) : Option Int32 := some (V.1 o 17)
set_option maxHeartbeats 4000000 in
set_option maxRecDepth 100000 in
theorem c_X8_stopped (l : Launch) (D : va_G) (cy : Nat → ClassId) (ad : Nat → Nat) (A : Nat → Prop) (Kc : State → Prop) (C0 : Cx ad A Kc) (N : Nat) (S : St) (V : Vt) (o : Nat) (hs : shp S o t8) (r : Int32) (h : f_X8_stopped N S V o = some r) : Met l yX8_stopped (mw yX8_stopped cX8_stopped 1 (some .int)) { frames := 0, cells := 0, slots := 0, locals := 0 } (PreM D cy ad Kc S V [.ref (ad o)]) (QI D cy ad A r S V) 0 0 A := by
  refine ct_go C0 (own := RX8) rfl (by decide) rfl ?_
  intro p e s m below meth c ls H locs X hr hlocks hnm hl w
  have hx := X.1.1
  have hb := X.1.2.1
  have hown := X.2.1
  have hts := X.2.2.1
  have hl : lv_has ls 1 [(0, .ref (ad o))] := hl
  rw [f_X8_stopped] at h
  refine lv_aload_n hx hb dX8_stopped_0 rfl (lv_at hl 0 rfl) ?_
  refine m_get X w o (shn hs 0 rfl) (shk hs 0 rfl : S.2.1 o = 8) ci8 17 (by decide) (fvI (shk hs 0 rfl : S.2.1 o = 8) rfl) rfl fl_X8_85 dX8_stopped_1 ?_
  obtain rfl := Option.some.inj h
  exact m_ri X w hr hlocks dX8_stopped_4
def f_X8_forget (N : Nat) (S : St) (V : Vt) (o : Nat) : Option (Int32 × Vt) := bd ((V.1 (o + 1) 12) + (V.1 (o + 1) 13)) (fun x4 => bd (sF V (o + 1) 12 (0 : Int32)) (fun V5 => bd (sF V5 (o + 1) 13 (0 : Int32)) (fun V6 => some (x4, V6))))
set_option maxHeartbeats 4000000 in
set_option maxRecDepth 100000 in
theorem c_X8_forget (l : Launch) (D : va_G) (cy : Nat → ClassId) (ad : Nat → Nat) (A : Nat → Prop) (Kc : State → Prop) (C0 : Cx ad A Kc) (N : Nat) (S : St) (V : Vt) (o : Nat) (hs : shp S o t8) (r : Int32) (V' : Vt) (h : f_X8_forget N S V o = some (r, V')) : Met l yX8_forget (mw yX8_forget cX8_forget 2 (some .int)) { frames := 0, cells := 0, slots := 0, locals := 0 } (PreM D cy ad Kc S V [.ref (ad o)]) (QI D cy ad A r S V') 0 0 A := by
  refine ct_go C0 (own := RX8) rfl (by decide) rfl ?_
  intro p e s m below meth c ls H locs X hr hlocks hnm hl w
  have hx := X.1.1
  have hb := X.1.2.1
  have hown := X.2.1
  have hts := X.2.2.1
  have hl : lv_has ls 2 [(0, .ref (ad o))] := hl
  rw [f_X8_forget] at h
  refine lv_aload_n hx hb dX8_forget_0 rfl (lv_at hl 0 rfl) ?_
  refine m_get X w o (shn hs 0 rfl) (shk hs 0 rfl : S.2.1 o = 8) ci8 0 (by decide) (fvR (shk hs 0 rfl : S.2.1 o = 8) rfl (shq hs 0 0 rfl rfl : S.2.2.2.1 o 0 = (o + 1) + 1)) rfl fl_X8_12 dX8_forget_1 ?_
  refine m_getN X w (o + 1) (shn hs 1 rfl) (shk hs 1 rfl : S.2.1 (o + 1) = 0) ci0 12 (by decide) (fvI (shk hs 1 rfl : S.2.1 (o + 1) = 0) rfl) rfl nf_X8_244 dX8_forget_4 ?_
  refine lv_aload_n hx hb dX8_forget_7 rfl (lv_at hl 0 rfl) ?_
  refine m_get X w o (shn hs 0 rfl) (shk hs 0 rfl : S.2.1 o = 8) ci8 0 (by decide) (fvR (shk hs 0 rfl : S.2.1 o = 8) rfl (shq hs 0 0 rfl rfl : S.2.2.2.1 o 0 = (o + 1) + 1)) rfl fl_X8_12 dX8_forget_8 ?_
  refine m_getN X w (o + 1) (shn hs 1 rfl) (shk hs 1 rfl : S.2.1 (o + 1) = 0) ci0 13 (by decide) (fvI (shk hs 1 rfl : S.2.1 (o + 1) = 0) rfl) rfl nf_X8_267 dX8_forget_11 ?_
  refine lv_iadd hx hb dX8_forget_14 ?_
  refine lv_topi (fun x4 ex4 => ?_)
  replace h := bdi h _ ex4
  refine lv_istore_n (lv' := [(1, .int x4), (0, .ref (ad o))]) hx hb dX8_forget_15 rfl hl (by decide) rfl (fun ls hl => ?_)
  refine lv_aload_n hx hb dX8_forget_16 rfl (lv_at hl 1 rfl) ?_
  refine m_get X w o (shn hs 0 rfl) (shk hs 0 rfl : S.2.1 o = 8) ci8 0 (by decide) (fvR (shk hs 0 rfl : S.2.1 o = 8) rfl (shq hs 0 0 rfl rfl : S.2.2.2.1 o 0 = (o + 1) + 1)) rfl fl_X8_12 dX8_forget_17 ?_
  refine lv_iconst (v := 0) hx hb dX8_forget_20 (by decide) ?_
  refine m_putN X w (o + 1) (shn hs 1 rfl) (shk hs 1 rfl : S.2.1 (o + 1) = 0) ci0 12 (by decide) rfl rfl rfl rfl rfl nf_X8_244 dX8_forget_21 (fun V5 H locs eV5 w => ?_)
  replace h := bdi h _ eV5
  refine lv_aload_n hx hb dX8_forget_24 rfl (lv_at hl 1 rfl) ?_
  refine m_get X w o (shn hs 0 rfl) (shk hs 0 rfl : S.2.1 o = 8) ci8 0 (by decide) (fvR (shk hs 0 rfl : S.2.1 o = 8) rfl (shq hs 0 0 rfl rfl : S.2.2.2.1 o 0 = (o + 1) + 1)) rfl fl_X8_12 dX8_forget_25 ?_
  refine lv_iconst (v := 0) hx hb dX8_forget_28 (by decide) ?_
  refine m_putN X w (o + 1) (shn hs 1 rfl) (shk hs 1 rfl : S.2.1 (o + 1) = 0) ci0 13 (by decide) rfl rfl rfl rfl rfl nf_X8_267 dX8_forget_29 (fun V6 H locs eV6 w => ?_)
  replace h := bdi h _ eV6
  refine lv_iload_n hx hb dX8_forget_32 rfl (lv_at hl 0 rfl) ?_
  obtain ⟨rfl, rfl⟩ := reti h
  exact m_ri X w hr hlocks dX8_forget_33
def f_X8_status (N : Nat) (S : St) (V : Vt) (o : Nat) : Option Int32 := some (V.1 o 18)
set_option maxHeartbeats 4000000 in
set_option maxRecDepth 100000 in
theorem c_X8_status (l : Launch) (D : va_G) (cy : Nat → ClassId) (ad : Nat → Nat) (A : Nat → Prop) (Kc : State → Prop) (C0 : Cx ad A Kc) (N : Nat) (S : St) (V : Vt) (o : Nat) (hs : shp S o t8) (r : Int32) (h : f_X8_status N S V o = some r) : Met l yX8_status (mw yX8_status cX8_status 1 (some .int)) { frames := 0, cells := 0, slots := 0, locals := 0 } (PreM D cy ad Kc S V [.ref (ad o)]) (QI D cy ad A r S V) 0 0 A := by
  refine ct_go C0 (own := RX8) rfl (by decide) rfl ?_
  intro p e s m below meth c ls H locs X hr hlocks hnm hl w
  have hx := X.1.1
  have hb := X.1.2.1
  have hown := X.2.1
  have hts := X.2.2.1
  have hl : lv_has ls 1 [(0, .ref (ad o))] := hl
  rw [f_X8_status] at h
  refine lv_aload_n hx hb dX8_status_0 rfl (lv_at hl 0 rfl) ?_
  refine m_get X w o (shn hs 0 rfl) (shk hs 0 rfl : S.2.1 o = 8) ci8 18 (by decide) (fvI (shk hs 0 rfl : S.2.1 o = 8) rfl) rfl fl_X8_301 dX8_status_1 ?_
  obtain rfl := Option.some.inj h
  exact m_ri X w hr hlocks dX8_status_4
