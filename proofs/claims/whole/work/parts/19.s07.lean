abbrev RH_X5_readTest (l : Launch) (D : va_G) (cy : Nat → ClassId) (ad : Nat → Nat) (A : Nat → Prop) (aK aV : Nat → Nat) (S : St) (KR : Nat → Vt → Nat → Int32 → Option (Int32 × Vt)) (F L : Nat) : Prop := (∀ (V : Vt) (o : Nat) (hs : shp S o t5) (a1 : Int32) (r : Int32) (V' : Vt), KR 0 V o a1 = some (r, V') → Met l yX5_readTest (mw yX5_readTest cX5_readTest 5 (some .boolean)) { frames := F, cells := 0, slots := 0, locals := L } (PreM D cy ad (KX A aK aV) S V [.ref (ad o), .int a1]) (QI D cy ad A r S V') 0 0 A) ∧ (∀ (V : Vt) (o : Nat) (hs : shp S o t5) (a1 : Int32) (r : Int32) (V' : Vt), KR 1 V o a1 = some (r, V') → Met l yX5_readBoth (mw yX5_readBoth cX5_readBoth 5 (some .boolean)) { frames := F, cells := 0, slots := 0, locals := L } (PreM D cy ad (KX A aK aV) S V [.ref (ad o), .int a1]) (QI D cy ad A r S V') 0 0 A) ∧ (∀ (V : Vt) (o : Nat) (hs : shp S o t5) (a1 : Int32) (r : Int32) (V' : Vt), KR 2 V o a1 = some (r, V') → Met l yX5_readPlain (mw yX5_readPlain cX5_readPlain 4 (some .boolean)) { frames := F, cells := 0, slots := 0, locals := L } (PreM D cy ad (KX A aK aV) S V [.ref (ad o), .int a1]) (QI D cy ad A r S V') 0 0 A)
def f_X5_readTest_8 (N : Nat) (S : St) (KR : Nat → Vt → Nat → Int32 → Option (Int32 × Vt)) (o : Nat) : Nat → Vt → Int32 → Int32 → Int32 → Option (Int32 × Vt)
  | 0, _, _, _, _ => none
  | n + 1, V, v1, v2, v3 => if (V.1 o 5) ≤ v3 then cb v2 (some (v2, V)) else if v2 = 0 then cb v2 (some (v2, V)) else ob1 (f_X5_wordIn N S V o 13) (fun r26 => if r26 = (-1 : Int32) then cb v2 (some (v2, V)) else obv (f_X5_move N S V o) (fun V32 => ob (f_X5_put N S V32 o (13 : Int32) (0 : Int32)) (fun r33 V35 => ob (KR 1 V35 o v1) (fun r36 V38 => obv (f_X5_land N S V38 o r33) (fun V41 => bd (v3 + (1 : Int32)) (fun x42 => (f_X5_readTest_8 N S KR o n) V41 v1 r36 x42))))))
def f_X5_readTest (N : Nat) (S : St) (KR : Nat → Vt → Nat → Int32 → Option (Int32 × Vt)) (V : Vt) (o : Nat) (a1 : Int32) : Option (Int32 × Vt) := ob (KR 1 V o a1) (fun r19 V21 => f_X5_readTest_8 N S KR o N V21 a1 r19 (0 : Int32))
set_option maxHeartbeats 4000000 in
set_option maxRecDepth 100000 in
theorem c_X5_readTest (l : Launch) (D : va_G) (cy : Nat → ClassId) (ad : Nat → Nat) (A : Nat → Prop) (aK aV : Nat → Nat) (C0 : Cx ad A (KX A aK aV)) (N : Nat) (S : St) (KR : Nat → Vt → Nat → Int32 → Option (Int32 × Vt)) (Fk Lk F L : Nat) (hF : Fk + 1 ≤ F) (hL : Lk + 60 ≤ L) (hF0 : 47 ≤ F) (hL0 : 2555 ≤ L) (hKR : RH_X5_readTest l D cy ad A aK aV S KR Fk Lk) (V : Vt) (o : Nat) (hs : shp S o t5) (a1 : Int32) (r : Int32) (V' : Vt) (h : f_X5_readTest N S KR V o a1 = some (r, V')) : Met l yX5_readTest (mw yX5_readTest cX5_readTest 5 (some .boolean)) { frames := F, cells := 0, slots := 0, locals := L } (PreM D cy ad (KX A aK aV) S V [.ref (ad o), .int a1]) (QI D cy ad A r S V') 0 0 A := by
  refine ct_goK C0 (own := RX5) rfl (by decide) rfl ?_
  intro p e s m below meth c ls H locs hKc X hr hlocks hnm hl w
  have hx := X.1.1
  have hb := X.1.2.1
  have hown := X.2.1
  have hts := X.2.2.1
  have hl : lv_has ls 5 [(0, .ref (ad o)), (1, .int a1)] := hl
  obtain ⟨G, hG⟩ : ∃ G : Nat → Vt → List (Nat × Value) → List Value → Prop, G = fun pc V lv st => ∀ (H : Heap) (locs : List Loc) (ls : Array Slot), Wd D cy ad A s.heap S V H locs → lv_has ls 5 lv → W p l e { frames := F, cells := 0, slots := 0, locals := L } s m ([.ref (ad o), .int a1] : List Value).toArray below meth c H locs 0 0 (MQ below (QI D cy ad A r S V') ([.ref (ad o), .int a1] : List Value).toArray s 0 0 A) (F0 m pc ls st) := ⟨_, rfl⟩
  have L8 : ∀ (n8 : Nat) (V : Vt) (v1 : Int32) (v2 : Int32) (v3 : Int32), f_X5_readTest_8 N S KR o n8 V v1 v2 v3 = some (r, V') → G 8 V [(0, .ref (ad o)), (1, .int v1), (2, .int v2), (3, .int v3)] [] := by
    intro n8
    induction n8 with
    | zero => intro V v1 v2 v3 h; rw [f_X5_readTest_8] at h; cases h
    | succ n8 ih8 =>
      intro V v1 v2 v3 h
      rw [hG]
      intro H locs ls w hl
      rw [f_X5_readTest_8] at h
      refine lv_iload_n hx hb dX5_readTest_8 rfl (lv_at hl 3 rfl) ?_
      refine lv_aload_n hx hb dX5_readTest_9 rfl (lv_at hl 0 rfl) ?_
      refine m_get X w o (shn hs 0 rfl) (shk hs 0 rfl : S.2.1 o = 5) ci5 5 (by decide) (fvI (shk hs 0 rfl : S.2.1 o = 5) rfl) rfl fl_X5_38 dX5_readTest_10 ?_
      refine lv_icmp_ge (tgt := 61) hx hb dX5_readTest_13 (by decide) (fun c22 => ?_) (fun c22 => ?_)
      · replace h := ifT h c22
        refine lv_iload_n hx hb dX5_readTest_61 rfl (lv_at hl 2 rfl) ?_
        obtain ⟨g23, h⟩ := cbi h
        obtain ⟨rfl, rfl⟩ := reti h
        exact m_rz X w hr (nb01 g23) hlocks dX5_readTest_62
      · replace h := ifF h c22
        refine lv_iload_n hx hb dX5_readTest_16 rfl (lv_at hl 2 rfl) ?_
        refine lv_if_eq (tgt := 61) hx hb dX5_readTest_17 (by decide) (fun c24 => ?_) (fun c24 => ?_)
        · replace h := ifT h c24
          refine lv_iload_n hx hb dX5_readTest_61 rfl (lv_at hl 2 rfl) ?_
          obtain ⟨g25, h⟩ := cbi h
          obtain ⟨rfl, rfl⟩ := reti h
          exact m_rz X w hr (nb01 g25) hlocks dX5_readTest_62
        · replace h := ifF h c24
          refine lv_aload_n hx hb dX5_readTest_20 rfl (lv_at hl 0 rfl) ?_
          refine va_ldcS hx hb hown (ks_13 hKc) dX5_readTest_21 ?_
          obtain ⟨r26, q27, h⟩ := ob1i h
          refine m_ci (m_rV (As := [.ref (aK 13)]) (rest := []) X w hl mi_X5_wordIn ml_X5_86 o (shn hs 0 rfl) (shk hs 0 rfl : S.2.1 o = 5) rfl (c_X5_wordIn l D cy ad A aK aV C0 N S V o hs 13 (Nat.le_of_ble_eq_true rfl) r26 q27) ⟨⟨rfl, rfl, (by show 4 + 1 ≤ F; omega), (by show 8 + (6 + 11) + 85 ≤ L; omega)⟩, Nat.le_of_ble_eq_true rfl, Nat.le_of_ble_eq_true rfl⟩ rfl rfl (Nat.le_of_ble_eq_true rfl) dX5_readTest_23) w (fun H locs w => ?_)
          refine lv_iconst (v := (-1)) hx hb dX5_readTest_26 (by decide) ?_
          refine lv_icmp_eq (tgt := 61) hx hb dX5_readTest_27 (by decide) (fun c28 => ?_) (fun c28 => ?_)
          · replace h := ifT h c28
            refine lv_iload_n hx hb dX5_readTest_61 rfl (lv_at hl 2 rfl) ?_
            obtain ⟨g29, h⟩ := cbi h
            obtain ⟨rfl, rfl⟩ := reti h
            exact m_rz X w hr (nb01 g29) hlocks dX5_readTest_62
          · replace h := ifF h c28
            refine lv_aload_n hx hb dX5_readTest_30 rfl (lv_at hl 0 rfl) ?_
            obtain ⟨V32, q31, h⟩ := obvi h
            refine m_cv (m_rV (As := []) (rest := []) X w hl mi_X5_move ml_X5_53 o (shn hs 0 rfl) (shk hs 0 rfl : S.2.1 o = 5) rfl (c_X5_move l D cy ad A (KX A aK aV) C0 N S V o hs V32 q31) ⟨⟨rfl, rfl, (by show 0 + 1 ≤ F; omega), (by show 8 + (2 + 11) + 0 ≤ L; omega)⟩, Nat.le_of_ble_eq_true rfl, Nat.le_of_ble_eq_true rfl⟩ rfl rfl (Nat.le_of_ble_eq_true rfl) dX5_readTest_31) w (fun H locs w => ?_)
            refine lv_aload_n hx hb dX5_readTest_34 rfl (lv_at hl 0 rfl) ?_
            refine lv_bipush (v := 13) hx hb dX5_readTest_35 (by decide) ?_
            refine lv_iconst (v := 0) hx hb dX5_readTest_37 (by decide) ?_
            obtain ⟨r33, V35, q34, h⟩ := obi h
            refine m_ci (m_rV (As := [.int (13 : Int32), .int (0 : Int32)]) (rest := []) X w hl mi_X5_put ml_X5_117 o (shn hs 0 rfl) (shk hs 0 rfl : S.2.1 o = 5) rfl (c_X5_put l D cy ad A (KX A aK aV) C0 N S V32 o hs (13 : Int32) (0 : Int32) r33 V35 q34) ⟨⟨rfl, rfl, (by show 0 + 1 ≤ F; omega), (by show 8 + (4 + 11) + 0 ≤ L; omega)⟩, Nat.le_of_ble_eq_true rfl, Nat.le_of_ble_eq_true rfl⟩ rfl rfl (Nat.le_of_ble_eq_true rfl) dX5_readTest_38) w (fun H locs w => ?_)
            refine lv_istore (lv' := [(4, .int r33), (0, .ref (ad o)), (1, .int v1), (2, .int v2), (3, .int v3)]) hx hb dX5_readTest_41 hl (by decide) rfl (fun ls hl => ?_)
            refine lv_aload_n hx hb dX5_readTest_43 rfl (lv_at hl 1 rfl) ?_
            refine lv_iload_n hx hb dX5_readTest_44 rfl (lv_at hl 2 rfl) ?_
            obtain ⟨r36, V38, q37, h⟩ := obi h
            refine m_ci (m_rV (As := [.int v1]) (rest := []) X w hl mi_X5_readBoth ml_X5_131 o (shn hs 0 rfl) (shk hs 0 rfl : S.2.1 o = 5) rfl (hKR.2.1 V35 o hs v1 r36 V38 q37) ⟨⟨rfl, rfl, hF, (by show 8 + (5 + 11) + Lk ≤ L; omega)⟩, Nat.le_of_ble_eq_true rfl, Nat.le_of_ble_eq_true rfl⟩ rfl rfl (Nat.le_of_ble_eq_true rfl) dX5_readTest_45) w (fun H locs w => ?_)
            refine lv_istore_n (lv' := [(2, .int r36), (4, .int r33), (0, .ref (ad o)), (1, .int v1), (3, .int v3)]) hx hb dX5_readTest_48 rfl hl (by decide) rfl (fun ls hl => ?_)
            refine lv_aload_n hx hb dX5_readTest_49 rfl (lv_at hl 2 rfl) ?_
            refine lv_iload hx hb dX5_readTest_50 (lv_at hl 1 rfl) ?_
            obtain ⟨V41, q40, h⟩ := obvi h
            refine m_cv (m_rV (As := [.int r33]) (rest := []) X w hl mi_X5_land ml_X5_136 o (shn hs 0 rfl) (shk hs 0 rfl : S.2.1 o = 5) rfl (c_X5_land l D cy ad A (KX A aK aV) C0 N S V38 o hs r33 V41 q40) ⟨⟨rfl, rfl, (by show 0 + 1 ≤ F; omega), (by show 8 + (2 + 11) + 0 ≤ L; omega)⟩, Nat.le_of_ble_eq_true rfl, Nat.le_of_ble_eq_true rfl⟩ rfl rfl (Nat.le_of_ble_eq_true rfl) dX5_readTest_52) w (fun H locs w => ?_)
            obtain ⟨x42, ex42⟩ : ∃ y : Int32, y = v3 + (1 : Int32) := ⟨_, rfl⟩
            replace h := bdi h _ ex42
            refine lv_iinc (v := x42) (lv' := [(3, .int x42), (2, .int r36), (4, .int r33), (0, .ref (ad o)), (1, .int v1)]) hx hb dX5_readTest_55 hl (k := 4) rfl (by rw [ex42]; rfl) (by decide) rfl (fun ls hl => ?_)
            refine lv_goto (tgt := 8) hx hb dX5_readTest_58 (by decide) ?_
            have g := ih8 V41 v1 r36 x42 h
            rw [hG] at g
            exact g H locs ls w (lv_sub hl [3, 4, 1, 0] rfl)
  rw [f_X5_readTest] at h
  refine lv_aload_n hx hb dX5_readTest_0 rfl (lv_at hl 0 rfl) ?_
  refine lv_iload_n hx hb dX5_readTest_1 rfl (lv_at hl 1 rfl) ?_
  obtain ⟨r19, V21, q20, h⟩ := obi h
  refine m_ci (m_rV (As := [.int a1]) (rest := []) X w hl mi_X5_readBoth ml_X5_131 o (shn hs 0 rfl) (shk hs 0 rfl : S.2.1 o = 5) rfl (hKR.2.1 V o hs a1 r19 V21 q20) ⟨⟨rfl, rfl, hF, (by show 8 + (5 + 11) + Lk ≤ L; omega)⟩, Nat.le_of_ble_eq_true rfl, Nat.le_of_ble_eq_true rfl⟩ rfl rfl (Nat.le_of_ble_eq_true rfl) dX5_readTest_2) w (fun H locs w => ?_)
  refine lv_istore_n (lv' := [(2, .int r19), (0, .ref (ad o)), (1, .int a1)]) hx hb dX5_readTest_5 rfl hl (by decide) rfl (fun ls hl => ?_)
  refine lv_iconst (v := 0) hx hb dX5_readTest_6 (by decide) ?_
  refine lv_istore_n (lv' := [(3, .int (0 : Int32)), (2, .int r19), (0, .ref (ad o)), (1, .int a1)]) hx hb dX5_readTest_7 rfl hl (by decide) rfl (fun ls hl => ?_)
  have g := L8 N V21 a1 r19 (0 : Int32) h
  rw [hG] at g
  exact g H locs ls w (lv_sub hl [2, 3, 1, 0] rfl)
def f_X5_readBoth_8 (N : Nat) (S : St) (KR : Nat → Vt → Nat → Int32 → Option (Int32 × Vt)) (o : Nat) : Nat → Vt → Int32 → Int32 → Int32 → Option (Int32 × Vt)
  | 0, _, _, _, _ => none
  | n + 1, V, v1, v2, v3 => if (V.1 o 5) ≤ v3 then cb v2 (some (v2, V)) else if v2 = 0 then cb v2 (some (v2, V)) else ob1 (f_X5_wordIn N S V o 12) (fun r26 => if r26 = (-1 : Int32) then cb v2 (some (v2, V)) else obv (f_X5_move N S V o) (fun V32 => ob (f_X5_put N S V32 o (12 : Int32) (0 : Int32)) (fun r33 V35 => ob (KR 2 V35 o v1) (fun r36 V38 => obv (f_X5_land N S V38 o r33) (fun V41 => bd (v3 + (1 : Int32)) (fun x42 => (f_X5_readBoth_8 N S KR o n) V41 v1 r36 x42))))))
def f_X5_readBoth (N : Nat) (S : St) (KR : Nat → Vt → Nat → Int32 → Option (Int32 × Vt)) (V : Vt) (o : Nat) (a1 : Int32) : Option (Int32 × Vt) := ob (KR 2 V o a1) (fun r19 V21 => f_X5_readBoth_8 N S KR o N V21 a1 r19 (0 : Int32))
set_option maxHeartbeats 4000000 in
set_option maxRecDepth 100000 in
theorem c_X5_readBoth (l : Launch) (D : va_G) (cy : Nat → ClassId) (ad : Nat → Nat) (A : Nat → Prop) (aK aV : Nat → Nat) (C0 : Cx ad A (KX A aK aV)) (N : Nat) (S : St) (KR : Nat → Vt → Nat → Int32 → Option (Int32 × Vt)) (Fk Lk F L : Nat) (hF : Fk + 1 ≤ F) (hL : Lk + 60 ≤ L) (hF0 : 47 ≤ F) (hL0 : 2555 ≤ L) (hKR : RH_X5_readTest l D cy ad A aK aV S KR Fk Lk) (V : Vt) (o : Nat) (hs : shp S o t5) (a1 : Int32) (r : Int32) (V' : Vt) (h : f_X5_readBoth N S KR V o a1 = some (r, V')) : Met l yX5_readBoth (mw yX5_readBoth cX5_readBoth 5 (some .boolean)) { frames := F, cells := 0, slots := 0, locals := L } (PreM D cy ad (KX A aK aV) S V [.ref (ad o), .int a1]) (QI D cy ad A r S V') 0 0 A := by
  refine ct_goK C0 (own := RX5) rfl (by decide) rfl ?_
  intro p e s m below meth c ls H locs hKc X hr hlocks hnm hl w
  have hx := X.1.1
  have hb := X.1.2.1
  have hown := X.2.1
  have hts := X.2.2.1
  have hl : lv_has ls 5 [(0, .ref (ad o)), (1, .int a1)] := hl
  obtain ⟨G, hG⟩ : ∃ G : Nat → Vt → List (Nat × Value) → List Value → Prop, G = fun pc V lv st => ∀ (H : Heap) (locs : List Loc) (ls : Array Slot), Wd D cy ad A s.heap S V H locs → lv_has ls 5 lv → W p l e { frames := F, cells := 0, slots := 0, locals := L } s m ([.ref (ad o), .int a1] : List Value).toArray below meth c H locs 0 0 (MQ below (QI D cy ad A r S V') ([.ref (ad o), .int a1] : List Value).toArray s 0 0 A) (F0 m pc ls st) := ⟨_, rfl⟩
  have L8 : ∀ (n8 : Nat) (V : Vt) (v1 : Int32) (v2 : Int32) (v3 : Int32), f_X5_readBoth_8 N S KR o n8 V v1 v2 v3 = some (r, V') → G 8 V [(0, .ref (ad o)), (1, .int v1), (2, .int v2), (3, .int v3)] [] := by
    intro n8
    induction n8 with
    | zero => intro V v1 v2 v3 h; rw [f_X5_readBoth_8] at h; cases h
    | succ n8 ih8 =>
      intro V v1 v2 v3 h
      rw [hG]
      intro H locs ls w hl
      rw [f_X5_readBoth_8] at h
      refine lv_iload_n hx hb dX5_readBoth_8 rfl (lv_at hl 3 rfl) ?_
      refine lv_aload_n hx hb dX5_readBoth_9 rfl (lv_at hl 0 rfl) ?_
      refine m_get X w o (shn hs 0 rfl) (shk hs 0 rfl : S.2.1 o = 5) ci5 5 (by decide) (fvI (shk hs 0 rfl : S.2.1 o = 5) rfl) rfl fl_X5_38 dX5_readBoth_10 ?_
      refine lv_icmp_ge (tgt := 61) hx hb dX5_readBoth_13 (by decide) (fun c22 => ?_) (fun c22 => ?_)
      · replace h := ifT h c22
        refine lv_iload_n hx hb dX5_readBoth_61 rfl (lv_at hl 2 rfl) ?_
        obtain ⟨g23, h⟩ := cbi h
        obtain ⟨rfl, rfl⟩ := reti h
        exact m_rz X w hr (nb01 g23) hlocks dX5_readBoth_62
      · replace h := ifF h c22
        refine lv_iload_n hx hb dX5_readBoth_16 rfl (lv_at hl 2 rfl) ?_
        refine lv_if_eq (tgt := 61) hx hb dX5_readBoth_17 (by decide) (fun c24 => ?_) (fun c24 => ?_)
        · replace h := ifT h c24
          refine lv_iload_n hx hb dX5_readBoth_61 rfl (lv_at hl 2 rfl) ?_
          obtain ⟨g25, h⟩ := cbi h
          obtain ⟨rfl, rfl⟩ := reti h
          exact m_rz X w hr (nb01 g25) hlocks dX5_readBoth_62
        · replace h := ifF h c24
          refine lv_aload_n hx hb dX5_readBoth_20 rfl (lv_at hl 0 rfl) ?_
          refine va_ldcS hx hb hown (ks_12 hKc) dX5_readBoth_21 ?_
          obtain ⟨r26, q27, h⟩ := ob1i h
          refine m_ci (m_rV (As := [.ref (aK 12)]) (rest := []) X w hl mi_X5_wordIn ml_X5_86 o (shn hs 0 rfl) (shk hs 0 rfl : S.2.1 o = 5) rfl (c_X5_wordIn l D cy ad A aK aV C0 N S V o hs 12 (Nat.le_of_ble_eq_true rfl) r26 q27) ⟨⟨rfl, rfl, (by show 4 + 1 ≤ F; omega), (by show 8 + (6 + 11) + 85 ≤ L; omega)⟩, Nat.le_of_ble_eq_true rfl, Nat.le_of_ble_eq_true rfl⟩ rfl rfl (Nat.le_of_ble_eq_true rfl) dX5_readBoth_23) w (fun H locs w => ?_)
          refine lv_iconst (v := (-1)) hx hb dX5_readBoth_26 (by decide) ?_
          refine lv_icmp_eq (tgt := 61) hx hb dX5_readBoth_27 (by decide) (fun c28 => ?_) (fun c28 => ?_)
          · replace h := ifT h c28
            refine lv_iload_n hx hb dX5_readBoth_61 rfl (lv_at hl 2 rfl) ?_
            obtain ⟨g29, h⟩ := cbi h
            obtain ⟨rfl, rfl⟩ := reti h
            exact m_rz X w hr (nb01 g29) hlocks dX5_readBoth_62
          · replace h := ifF h c28
            refine lv_aload_n hx hb dX5_readBoth_30 rfl (lv_at hl 0 rfl) ?_
            obtain ⟨V32, q31, h⟩ := obvi h
            refine m_cv (m_rV (As := []) (rest := []) X w hl mi_X5_move ml_X5_53 o (shn hs 0 rfl) (shk hs 0 rfl : S.2.1 o = 5) rfl (c_X5_move l D cy ad A (KX A aK aV) C0 N S V o hs V32 q31) ⟨⟨rfl, rfl, (by show 0 + 1 ≤ F; omega), (by show 8 + (2 + 11) + 0 ≤ L; omega)⟩, Nat.le_of_ble_eq_true rfl, Nat.le_of_ble_eq_true rfl⟩ rfl rfl (Nat.le_of_ble_eq_true rfl) dX5_readBoth_31) w (fun H locs w => ?_)
            refine lv_aload_n hx hb dX5_readBoth_34 rfl (lv_at hl 0 rfl) ?_
            refine lv_bipush (v := 12) hx hb dX5_readBoth_35 (by decide) ?_
            refine lv_iconst (v := 0) hx hb dX5_readBoth_37 (by decide) ?_
            obtain ⟨r33, V35, q34, h⟩ := obi h
            refine m_ci (m_rV (As := [.int (12 : Int32), .int (0 : Int32)]) (rest := []) X w hl mi_X5_put ml_X5_117 o (shn hs 0 rfl) (shk hs 0 rfl : S.2.1 o = 5) rfl (c_X5_put l D cy ad A (KX A aK aV) C0 N S V32 o hs (12 : Int32) (0 : Int32) r33 V35 q34) ⟨⟨rfl, rfl, (by show 0 + 1 ≤ F; omega), (by show 8 + (4 + 11) + 0 ≤ L; omega)⟩, Nat.le_of_ble_eq_true rfl, Nat.le_of_ble_eq_true rfl⟩ rfl rfl (Nat.le_of_ble_eq_true rfl) dX5_readBoth_38) w (fun H locs w => ?_)
            refine lv_istore (lv' := [(4, .int r33), (0, .ref (ad o)), (1, .int v1), (2, .int v2), (3, .int v3)]) hx hb dX5_readBoth_41 hl (by decide) rfl (fun ls hl => ?_)
            refine lv_aload_n hx hb dX5_readBoth_43 rfl (lv_at hl 1 rfl) ?_
            refine lv_iload_n hx hb dX5_readBoth_44 rfl (lv_at hl 2 rfl) ?_
            obtain ⟨r36, V38, q37, h⟩ := obi h
            refine m_ci (m_rV (As := [.int v1]) (rest := []) X w hl mi_X5_readPlain ml_X5_139 o (shn hs 0 rfl) (shk hs 0 rfl : S.2.1 o = 5) rfl (hKR.2.2 V35 o hs v1 r36 V38 q37) ⟨⟨rfl, rfl, hF, (by show 8 + (4 + 11) + Lk ≤ L; omega)⟩, Nat.le_of_ble_eq_true rfl, Nat.le_of_ble_eq_true rfl⟩ rfl rfl (Nat.le_of_ble_eq_true rfl) dX5_readBoth_45) w (fun H locs w => ?_)
            refine lv_istore_n (lv' := [(2, .int r36), (4, .int r33), (0, .ref (ad o)), (1, .int v1), (3, .int v3)]) hx hb dX5_readBoth_48 rfl hl (by decide) rfl (fun ls hl => ?_)
            refine lv_aload_n hx hb dX5_readBoth_49 rfl (lv_at hl 2 rfl) ?_
            refine lv_iload hx hb dX5_readBoth_50 (lv_at hl 1 rfl) ?_
            obtain ⟨V41, q40, h⟩ := obvi h
            refine m_cv (m_rV (As := [.int r33]) (rest := []) X w hl mi_X5_land ml_X5_136 o (shn hs 0 rfl) (shk hs 0 rfl : S.2.1 o = 5) rfl (c_X5_land l D cy ad A (KX A aK aV) C0 N S V38 o hs r33 V41 q40) ⟨⟨rfl, rfl, (by show 0 + 1 ≤ F; omega), (by show 8 + (2 + 11) + 0 ≤ L; omega)⟩, Nat.le_of_ble_eq_true rfl, Nat.le_of_ble_eq_true rfl⟩ rfl rfl (Nat.le_of_ble_eq_true rfl) dX5_readBoth_52) w (fun H locs w => ?_)
            obtain ⟨x42, ex42⟩ : ∃ y : Int32, y = v3 + (1 : Int32) := ⟨_, rfl⟩
            replace h := bdi h _ ex42
            refine lv_iinc (v := x42) (lv' := [(3, .int x42), (2, .int r36), (4, .int r33), (0, .ref (ad o)), (1, .int v1)]) hx hb dX5_readBoth_55 hl (k := 4) rfl (by rw [ex42]; rfl) (by decide) rfl (fun ls hl => ?_)
            refine lv_goto (tgt := 8) hx hb dX5_readBoth_58 (by decide) ?_
            have g := ih8 V41 v1 r36 x42 h
            rw [hG] at g
            exact g H locs ls w (lv_sub hl [3, 4, 1, 0] rfl)
  rw [f_X5_readBoth] at h
  refine lv_aload_n hx hb dX5_readBoth_0 rfl (lv_at hl 0 rfl) ?_
  refine lv_iload_n hx hb dX5_readBoth_1 rfl (lv_at hl 1 rfl) ?_
  obtain ⟨r19, V21, q20, h⟩ := obi h
  refine m_ci (m_rV (As := [.int a1]) (rest := []) X w hl mi_X5_readPlain ml_X5_139 o (shn hs 0 rfl) (shk hs 0 rfl : S.2.1 o = 5) rfl (hKR.2.2 V o hs a1 r19 V21 q20) ⟨⟨rfl, rfl, hF, (by show 8 + (4 + 11) + Lk ≤ L; omega)⟩, Nat.le_of_ble_eq_true rfl, Nat.le_of_ble_eq_true rfl⟩ rfl rfl (Nat.le_of_ble_eq_true rfl) dX5_readBoth_2) w (fun H locs w => ?_)
  refine lv_istore_n (lv' := [(2, .int r19), (0, .ref (ad o)), (1, .int a1)]) hx hb dX5_readBoth_5 rfl hl (by decide) rfl (fun ls hl => ?_)
  refine lv_iconst (v := 0) hx hb dX5_readBoth_6 (by decide) ?_
  refine lv_istore_n (lv' := [(3, .int (0 : Int32)), (2, .int r19), (0, .ref (ad o)), (1, .int a1)]) hx hb dX5_readBoth_7 rfl hl (by decide) rfl (fun ls hl => ?_)
  have g := L8 N V21 a1 r19 (0 : Int32) h
  rw [hG] at g
  exact g H locs ls w (lv_sub hl [2, 3, 1, 0] rfl)
def f_X5_readPlain_127 (N : Nat) (S : St) (KR : Nat → Vt → Nat → Int32 → Option (Int32 × Vt)) (o : Nat) (V : Vt) (v2 : Int32) : Option (Int32 × Vt) := if (v2 - v2 / (2 : Int32) * (2 : Int32)) = (1 : Int32) then ob (f_X5_put N S V o (11 : Int32) (0 : Int32)) (fun r63 V65 => some ((1 : Int32), V65)) else some ((1 : Int32), V)
def f_X5_readPlain_30 (N : Nat) (S : St) (KR : Nat → Vt → Nat → Int32 → Option (Int32 × Vt)) (o : Nat) (V : Vt) (v1 : Int32) (v2 : Int32) : Option (Int32 × Vt) := ob1 (f_X5_wordIn N S V o 9) (fun r42 => if r42 = (-1 : Int32) then ob (g_X5_readSum N S 40 0 V o v1) (fun r45 V47 => if r45 = 0 then some ((0 : Int32), V47) else ob1 (f_X5_wordIn N S V47 o 11) (fun r49 => if r49 = (-1 : Int32) then ob (f_X5_fails N S V47 o) (fun r66 V68 => cb r66 (some (r66, V68))) else obv (f_X5_move N S V47 o) (fun V54 => ob (g_X5_readSum N S 40 0 V54 o v1) (fun r55 V57 => if r55 = 0 then some ((0 : Int32), V57) else ob (f_X5_put N S V57 o ((8 : Int32) + r49) (0 : Int32)) (fun r59 V61 => f_X5_readPlain_127 N S KR o V61 v2))))) else if v1 < (8 : Int32) then obv (f_X5_move N S V o) (fun V73 => ob (KR 0 V73 o (v1 + (1 : Int32))) (fun r74 V76 => if r74 = 0 then some ((0 : Int32), V76) else ob (f_X5_readSign N S V76 o 10) (fun r78 V80 => if r78 = 0 then some ((0 : Int32), V80) else f_X5_readPlain_127 N S KR o V80 v2))) else ob (f_X5_fails N S V o) (fun r82 V84 => cb r82 (some (r82, V84))))
def f_X5_readPlain_2 (N : Nat) (S : St) (KR : Nat → Vt → Nat → Int32 → Option (Int32 × Vt)) (o : Nat) : Nat → Vt → Int32 → Int32 → Option (Int32 × Vt)
  | 0, _, _, _ => none
  | n + 1, V, v1, v2 => if (V.1 o 5) ≤ v2 then f_X5_readPlain_30 N S KR o V v1 v2 else ob1 (f_X5_wordIn N S V o 8) (fun r86 => if r86 = (-1 : Int32) then f_X5_readPlain_30 N S KR o V v1 v2 else obv (f_X5_move N S V o) (fun V91 => bd (v2 + (1 : Int32)) (fun x92 => (f_X5_readPlain_2 N S KR o n) V91 v1 x92)))
def f_X5_readPlain (N : Nat) (S : St) (KR : Nat → Vt → Nat → Int32 → Option (Int32 × Vt)) (V : Vt) (o : Nat) (a1 : Int32) : Option (Int32 × Vt) := f_X5_readPlain_2 N S KR o N V a1 (0 : Int32)
set_option maxHeartbeats 4000000 in
set_option maxRecDepth 100000 in
theorem c_X5_readPlain (l : Launch) (D : va_G) (cy : Nat → ClassId) (ad : Nat → Nat) (A : Nat → Prop) (aK aV : Nat → Nat) (C0 : Cx ad A (KX A aK aV)) (N : Nat) (S : St) (KR : Nat → Vt → Nat → Int32 → Option (Int32 × Vt)) (Fk Lk F L : Nat) (hF : Fk + 1 ≤ F) (hL : Lk + 60 ≤ L) (hF0 : 47 ≤ F) (hL0 : 2555 ≤ L) (hKR : RH_X5_readTest l D cy ad A aK aV S KR Fk Lk) (V : Vt) (o : Nat) (hs : shp S o t5) (a1 : Int32) (r : Int32) (V' : Vt) (h : f_X5_readPlain N S KR V o a1 = some (r, V')) : Met l yX5_readPlain (mw yX5_readPlain cX5_readPlain 4 (some .boolean)) { frames := F, cells := 0, slots := 0, locals := L } (PreM D cy ad (KX A aK aV) S V [.ref (ad o), .int a1]) (QI D cy ad A r S V') 0 0 A := by
  refine ct_goK C0 (own := RX5) rfl (by decide) rfl ?_
  intro p e s m below meth c ls H locs hKc X hr hlocks hnm hl w
  have hx := X.1.1
  have hb := X.1.2.1
  have hown := X.2.1
  have hts := X.2.2.1
  have hl : lv_has ls 4 [(0, .ref (ad o)), (1, .int a1)] := hl
  obtain ⟨G, hG⟩ : ∃ G : Nat → Vt → List (Nat × Value) → List Value → Prop, G = fun pc V lv st => ∀ (H : Heap) (locs : List Loc) (ls : Array Slot), Wd D cy ad A s.heap S V H locs → lv_has ls 4 lv → W p l e { frames := F, cells := 0, slots := 0, locals := L } s m ([.ref (ad o), .int a1] : List Value).toArray below meth c H locs 0 0 (MQ below (QI D cy ad A r S V') ([.ref (ad o), .int a1] : List Value).toArray s 0 0 A) (F0 m pc ls st) := ⟨_, rfl⟩
  have B127 : ∀ (V : Vt) (v2 : Int32), f_X5_readPlain_127 N S KR o V v2 = some (r, V') → G 127 V [(0, .ref (ad o)), (2, .int v2)] [] := by
    intro V v2 h
    rw [hG]
    intro H locs ls w hl
    rw [f_X5_readPlain_127] at h
    refine lv_iload_n hx hb dX5_readPlain_127 rfl (lv_at hl 1 rfl) ?_
    refine lv_iconst (v := 2) hx hb dX5_readPlain_128 (by decide) ?_
    refine lv_irem hx hb dX5_readPlain_129 (by decide) ?_
    refine lv_iconst (v := 1) hx hb dX5_readPlain_130 (by decide) ?_
    refine lv_icmp_ne (tgt := 142) hx hb dX5_readPlain_131 (by decide) (fun c62 => ?_) (fun c62 => ?_)
    · replace h := ifF h c62
      refine lv_iconst (v := 1) hx hb dX5_readPlain_142 (by decide) ?_
      obtain ⟨rfl, rfl⟩ := reti h
      exact m_rz X w hr rfl hlocks dX5_readPlain_143
    · replace h := ifT h c62
      refine lv_aload_n hx hb dX5_readPlain_134 rfl (lv_at hl 0 rfl) ?_
      refine lv_bipush (v := 11) hx hb dX5_readPlain_135 (by decide) ?_
      refine lv_iconst (v := 0) hx hb dX5_readPlain_137 (by decide) ?_
      obtain ⟨r63, V65, q64, h⟩ := obi h
      refine m_ci (m_rV (As := [.int (11 : Int32), .int (0 : Int32)]) (rest := []) X w hl mi_X5_put ml_X5_117 o (shn hs 0 rfl) (shk hs 0 rfl : S.2.1 o = 5) rfl (c_X5_put l D cy ad A (KX A aK aV) C0 N S V o hs (11 : Int32) (0 : Int32) r63 V65 q64) ⟨⟨rfl, rfl, (by show 0 + 1 ≤ F; omega), (by show 8 + (4 + 11) + 0 ≤ L; omega)⟩, Nat.le_of_ble_eq_true rfl, Nat.le_of_ble_eq_true rfl⟩ rfl rfl (Nat.le_of_ble_eq_true rfl) dX5_readPlain_138) w (fun H locs w => ?_)
      refine lv_pop hx hb dX5_readPlain_141 rfl ?_
      refine lv_iconst (v := 1) hx hb dX5_readPlain_142 (by decide) ?_
      obtain ⟨rfl, rfl⟩ := reti h
      exact m_rz X w hr rfl hlocks dX5_readPlain_143
  have B30 : ∀ (V : Vt) (v1 : Int32) (v2 : Int32), f_X5_readPlain_30 N S KR o V v1 v2 = some (r, V') → G 30 V [(0, .ref (ad o)), (1, .int v1), (2, .int v2)] [] := by
    intro V v1 v2 h
    rw [hG]
    intro H locs ls w hl
    rw [f_X5_readPlain_30] at h
    refine lv_aload_n hx hb dX5_readPlain_30 rfl (lv_at hl 0 rfl) ?_
    refine va_ldcS hx hb hown (ks_9 hKc) dX5_readPlain_31 ?_
    obtain ⟨r42, q43, h⟩ := ob1i h
    refine m_ci (m_rV (As := [.ref (aK 9)]) (rest := []) X w hl mi_X5_wordIn ml_X5_86 o (shn hs 0 rfl) (shk hs 0 rfl : S.2.1 o = 5) rfl (c_X5_wordIn l D cy ad A aK aV C0 N S V o hs 9 (Nat.le_of_ble_eq_true rfl) r42 q43) ⟨⟨rfl, rfl, (by show 4 + 1 ≤ F; omega), (by show 8 + (6 + 11) + 85 ≤ L; omega)⟩, Nat.le_of_ble_eq_true rfl, Nat.le_of_ble_eq_true rfl⟩ rfl rfl (Nat.le_of_ble_eq_true rfl) dX5_readPlain_33) w (fun H locs w => ?_)
    refine lv_iconst (v := (-1)) hx hb dX5_readPlain_36 (by decide) ?_
    refine lv_icmp_eq (tgt := 76) hx hb dX5_readPlain_37 (by decide) (fun c44 => ?_) (fun c44 => ?_)
    · replace h := ifT h c44
      refine lv_aload_n hx hb dX5_readPlain_76 rfl (lv_at hl 0 rfl) ?_
      refine lv_iload_n hx hb dX5_readPlain_77 rfl (lv_at hl 1 rfl) ?_
      obtain ⟨r45, V47, q46, h⟩ := obi h
      refine m_ci (m_rV (As := [.int v1]) (rest := []) X w hl mi_X5_readSum ml_X5_112 o (shn hs 0 rfl) (shk hs 0 rfl : S.2.1 o = 5) rfl ((cg_X5_readSum l D cy ad A aK aV C0 N S 40).1 V o hs v1 r45 V47 q46) ⟨⟨rfl, rfl, (by show 46 + 1 ≤ F; omega), (by show 8 + (5 + 11) + 2531 ≤ L; omega)⟩, Nat.le_of_ble_eq_true rfl, Nat.le_of_ble_eq_true rfl⟩ rfl rfl (Nat.le_of_ble_eq_true rfl) dX5_readPlain_78) w (fun H locs w => ?_)
      refine lv_if_ne (tgt := 86) hx hb dX5_readPlain_81 (by decide) (fun c48 => ?_) (fun c48 => ?_)
      · replace h := ifF h c48
        refine lv_aload_n hx hb dX5_readPlain_86 rfl (lv_at hl 0 rfl) ?_
        refine va_ldcS hx hb hown (ks_11 hKc) dX5_readPlain_87 ?_
        obtain ⟨r49, q50, h⟩ := ob1i h
        refine m_ci (m_rV (As := [.ref (aK 11)]) (rest := []) X w hl mi_X5_wordIn ml_X5_86 o (shn hs 0 rfl) (shk hs 0 rfl : S.2.1 o = 5) rfl (c_X5_wordIn l D cy ad A aK aV C0 N S V47 o hs 11 (Nat.le_of_ble_eq_true rfl) r49 q50) ⟨⟨rfl, rfl, (by show 4 + 1 ≤ F; omega), (by show 8 + (6 + 11) + 85 ≤ L; omega)⟩, Nat.le_of_ble_eq_true rfl, Nat.le_of_ble_eq_true rfl⟩ rfl rfl (Nat.le_of_ble_eq_true rfl) dX5_readPlain_89) w (fun H locs w => ?_)
        refine lv_istore_n (lv' := [(3, .int r49), (0, .ref (ad o)), (1, .int v1), (2, .int v2)]) hx hb dX5_readPlain_92 rfl hl (by decide) rfl (fun ls hl => ?_)
        refine lv_iload_n hx hb dX5_readPlain_93 rfl (lv_at hl 0 rfl) ?_
        refine lv_iconst (v := (-1)) hx hb dX5_readPlain_94 (by decide) ?_
        refine lv_icmp_ne (tgt := 103) hx hb dX5_readPlain_95 (by decide) (fun c51 => ?_) (fun c51 => ?_)
        · replace h := ifF h c51
          refine lv_aload_n hx hb dX5_readPlain_103 rfl (lv_at hl 1 rfl) ?_
          obtain ⟨V54, q53, h⟩ := obvi h
          refine m_cv (m_rV (As := []) (rest := []) X w hl mi_X5_move ml_X5_53 o (shn hs 0 rfl) (shk hs 0 rfl : S.2.1 o = 5) rfl (c_X5_move l D cy ad A (KX A aK aV) C0 N S V47 o hs V54 q53) ⟨⟨rfl, rfl, (by show 0 + 1 ≤ F; omega), (by show 8 + (2 + 11) + 0 ≤ L; omega)⟩, Nat.le_of_ble_eq_true rfl, Nat.le_of_ble_eq_true rfl⟩ rfl rfl (Nat.le_of_ble_eq_true rfl) dX5_readPlain_104) w (fun H locs w => ?_)
          refine lv_aload_n hx hb dX5_readPlain_107 rfl (lv_at hl 1 rfl) ?_
          refine lv_iload_n hx hb dX5_readPlain_108 rfl (lv_at hl 2 rfl) ?_
          obtain ⟨r55, V57, q56, h⟩ := obi h
          refine m_ci (m_rV (As := [.int v1]) (rest := []) X w hl mi_X5_readSum ml_X5_112 o (shn hs 0 rfl) (shk hs 0 rfl : S.2.1 o = 5) rfl ((cg_X5_readSum l D cy ad A aK aV C0 N S 40).1 V54 o hs v1 r55 V57 q56) ⟨⟨rfl, rfl, (by show 46 + 1 ≤ F; omega), (by show 8 + (5 + 11) + 2531 ≤ L; omega)⟩, Nat.le_of_ble_eq_true rfl, Nat.le_of_ble_eq_true rfl⟩ rfl rfl (Nat.le_of_ble_eq_true rfl) dX5_readPlain_109) w (fun H locs w => ?_)
          refine lv_if_ne (tgt := 117) hx hb dX5_readPlain_112 (by decide) (fun c58 => ?_) (fun c58 => ?_)
          · replace h := ifF h c58
            refine lv_aload_n hx hb dX5_readPlain_117 rfl (lv_at hl 1 rfl) ?_
            refine lv_bipush (v := 8) hx hb dX5_readPlain_118 (by decide) ?_
            refine lv_iload_n hx hb dX5_readPlain_120 rfl (lv_at hl 0 rfl) ?_
            refine lv_iadd hx hb dX5_readPlain_121 ?_
            refine lv_iconst (v := 0) hx hb dX5_readPlain_122 (by decide) ?_
            obtain ⟨r59, V61, q60, h⟩ := obi h
            refine m_ci (m_rV (As := [.int ((8 : Int32) + r49), .int (0 : Int32)]) (rest := []) X w hl mi_X5_put ml_X5_117 o (shn hs 0 rfl) (shk hs 0 rfl : S.2.1 o = 5) rfl (c_X5_put l D cy ad A (KX A aK aV) C0 N S V57 o hs ((8 : Int32) + r49) (0 : Int32) r59 V61 q60) ⟨⟨rfl, rfl, (by show 0 + 1 ≤ F; omega), (by show 8 + (4 + 11) + 0 ≤ L; omega)⟩, Nat.le_of_ble_eq_true rfl, Nat.le_of_ble_eq_true rfl⟩ rfl rfl (Nat.le_of_ble_eq_true rfl) dX5_readPlain_123) w (fun H locs w => ?_)
            refine lv_pop hx hb dX5_readPlain_126 rfl ?_
            have g := B127 V61 v2 h
            rw [hG] at g
            exact g H locs ls w (lv_sub hl [1, 3] rfl)
          · replace h := ifT h c58
            refine lv_iconst (v := 0) hx hb dX5_readPlain_115 (by decide) ?_
            obtain ⟨rfl, rfl⟩ := reti h
            exact m_rz X w hr rfl hlocks dX5_readPlain_116
        · replace h := ifT h c51
          refine lv_aload_n hx hb dX5_readPlain_98 rfl (lv_at hl 1 rfl) ?_
          obtain ⟨r66, V68, q67, h⟩ := obi h
          refine m_ci (m_rV (As := []) (rest := []) X w hl mi_X5_fails ml_X5_81 o (shn hs 0 rfl) (shk hs 0 rfl : S.2.1 o = 5) rfl (c_X5_fails l D cy ad A (KX A aK aV) C0 N S V47 o hs r66 V68 q67) ⟨⟨rfl, rfl, (by show 0 + 1 ≤ F; omega), (by show 8 + (1 + 11) + 0 ≤ L; omega)⟩, Nat.le_of_ble_eq_true rfl, Nat.le_of_ble_eq_true rfl⟩ rfl rfl (Nat.le_of_ble_eq_true rfl) dX5_readPlain_99) w (fun H locs w => ?_)
          obtain ⟨g69, h⟩ := cbi h
          obtain ⟨rfl, rfl⟩ := reti h
          exact m_rz X w hr (nb01 g69) hlocks dX5_readPlain_102
      · replace h := ifT h c48
        refine lv_iconst (v := 0) hx hb dX5_readPlain_84 (by decide) ?_
        obtain ⟨rfl, rfl⟩ := reti h
        exact m_rz X w hr rfl hlocks dX5_readPlain_85
    · replace h := ifF h c44
      refine lv_iload_n hx hb dX5_readPlain_40 rfl (lv_at hl 1 rfl) ?_
      refine lv_bipush (v := 8) hx hb dX5_readPlain_41 (by decide) ?_
      refine lv_icmp_lt (tgt := 51) hx hb dX5_readPlain_43 (by decide) (fun c70 => ?_) (fun c70 => ?_)
      · replace h := ifT h c70
        refine lv_aload_n hx hb dX5_readPlain_51 rfl (lv_at hl 0 rfl) ?_
        obtain ⟨V73, q72, h⟩ := obvi h
        refine m_cv (m_rV (As := []) (rest := []) X w hl mi_X5_move ml_X5_53 o (shn hs 0 rfl) (shk hs 0 rfl : S.2.1 o = 5) rfl (c_X5_move l D cy ad A (KX A aK aV) C0 N S V o hs V73 q72) ⟨⟨rfl, rfl, (by show 0 + 1 ≤ F; omega), (by show 8 + (2 + 11) + 0 ≤ L; omega)⟩, Nat.le_of_ble_eq_true rfl, Nat.le_of_ble_eq_true rfl⟩ rfl rfl (Nat.le_of_ble_eq_true rfl) dX5_readPlain_52) w (fun H locs w => ?_)
        refine lv_aload_n hx hb dX5_readPlain_55 rfl (lv_at hl 0 rfl) ?_
        refine lv_iload_n hx hb dX5_readPlain_56 rfl (lv_at hl 1 rfl) ?_
        refine lv_iconst (v := 1) hx hb dX5_readPlain_57 (by decide) ?_
        refine lv_iadd hx hb dX5_readPlain_58 ?_
        obtain ⟨r74, V76, q75, h⟩ := obi h
        refine m_ci (m_rV (As := [.int (v1 + (1 : Int32))]) (rest := []) X w hl mi_X5_readTest ml_X5_128 o (shn hs 0 rfl) (shk hs 0 rfl : S.2.1 o = 5) rfl (hKR.1 V73 o hs (v1 + (1 : Int32)) r74 V76 q75) ⟨⟨rfl, rfl, hF, (by show 8 + (5 + 11) + Lk ≤ L; omega)⟩, Nat.le_of_ble_eq_true rfl, Nat.le_of_ble_eq_true rfl⟩ rfl rfl (Nat.le_of_ble_eq_true rfl) dX5_readPlain_59) w (fun H locs w => ?_)
        refine lv_if_eq (tgt := 74) hx hb dX5_readPlain_62 (by decide) (fun c77 => ?_) (fun c77 => ?_)
        · replace h := ifT h c77
          refine lv_iconst (v := 0) hx hb dX5_readPlain_74 (by decide) ?_
          obtain ⟨rfl, rfl⟩ := reti h
          exact m_rz X w hr rfl hlocks dX5_readPlain_75
        · replace h := ifF h c77
          refine lv_aload_n hx hb dX5_readPlain_65 rfl (lv_at hl 0 rfl) ?_
          refine va_ldcS hx hb hown (ks_10 hKc) dX5_readPlain_66 ?_
          obtain ⟨r78, V80, q79, h⟩ := obi h
          refine m_ci (m_rV (As := [.ref (aK 10)]) (rest := []) X w hl mi_X5_readSign ml_X5_77 o (shn hs 0 rfl) (shk hs 0 rfl : S.2.1 o = 5) rfl (c_X5_readSign l D cy ad A aK aV C0 N S V76 o hs 10 (Nat.le_of_ble_eq_true rfl) r78 V80 q79) ⟨⟨rfl, rfl, (by show 5 + 1 ≤ F; omega), (by show 8 + (2 + 11) + 110 ≤ L; omega)⟩, Nat.le_of_ble_eq_true rfl, Nat.le_of_ble_eq_true rfl⟩ rfl rfl (Nat.le_of_ble_eq_true rfl) dX5_readPlain_68) w (fun H locs w => ?_)
          refine lv_if_ne (tgt := 127) hx hb dX5_readPlain_71 (by decide) (fun c81 => ?_) (fun c81 => ?_)
          · replace h := ifF h c81
            have g := B127 V80 v2 h
            rw [hG] at g
            exact g H locs ls w (lv_sub hl [0, 2] rfl)
          · replace h := ifT h c81
            refine lv_iconst (v := 0) hx hb dX5_readPlain_74 (by decide) ?_
            obtain ⟨rfl, rfl⟩ := reti h
            exact m_rz X w hr rfl hlocks dX5_readPlain_75
      · replace h := ifF h c70
        refine lv_aload_n hx hb dX5_readPlain_46 rfl (lv_at hl 0 rfl) ?_
        obtain ⟨r82, V84, q83, h⟩ := obi h
        refine m_ci (m_rV (As := []) (rest := []) X w hl mi_X5_fails ml_X5_81 o (shn hs 0 rfl) (shk hs 0 rfl : S.2.1 o = 5) rfl (c_X5_fails l D cy ad A (KX A aK aV) C0 N S V o hs r82 V84 q83) ⟨⟨rfl, rfl, (by show 0 + 1 ≤ F; omega), (by show 8 + (1 + 11) + 0 ≤ L; omega)⟩, Nat.le_of_ble_eq_true rfl, Nat.le_of_ble_eq_true rfl⟩ rfl rfl (Nat.le_of_ble_eq_true rfl) dX5_readPlain_47) w (fun H locs w => ?_)
        obtain ⟨g85, h⟩ := cbi h
        obtain ⟨rfl, rfl⟩ := reti h
        exact m_rz X w hr (nb01 g85) hlocks dX5_readPlain_50
  have L2 : ∀ (n2 : Nat) (V : Vt) (v1 : Int32) (v2 : Int32), f_X5_readPlain_2 N S KR o n2 V v1 v2 = some (r, V') → G 2 V [(0, .ref (ad o)), (1, .int v1), (2, .int v2)] [] := by
    intro n2
    induction n2 with
    | zero => intro V v1 v2 h; rw [f_X5_readPlain_2] at h; cases h
    | succ n2 ih2 =>
      intro V v1 v2 h
      rw [hG]
      intro H locs ls w hl
      rw [f_X5_readPlain_2] at h
      refine lv_iload_n hx hb dX5_readPlain_2 rfl (lv_at hl 2 rfl) ?_
      refine lv_aload_n hx hb dX5_readPlain_3 rfl (lv_at hl 0 rfl) ?_
      refine m_get X w o (shn hs 0 rfl) (shk hs 0 rfl : S.2.1 o = 5) ci5 5 (by decide) (fvI (shk hs 0 rfl : S.2.1 o = 5) rfl) rfl fl_X5_38 dX5_readPlain_4 ?_
      refine lv_icmp_ge (tgt := 30) hx hb dX5_readPlain_7 (by decide) (fun c41 => ?_) (fun c41 => ?_)
      · replace h := ifT h c41
        have g := B30 V v1 v2 h
        rw [hG] at g
        exact g H locs ls w (lv_sub hl [0, 1, 2] rfl)
      · replace h := ifF h c41
        refine lv_aload_n hx hb dX5_readPlain_10 rfl (lv_at hl 0 rfl) ?_
        refine va_ldcS hx hb hown (ks_8 hKc) dX5_readPlain_11 ?_
        obtain ⟨r86, q87, h⟩ := ob1i h
        refine m_ci (m_rV (As := [.ref (aK 8)]) (rest := []) X w hl mi_X5_wordIn ml_X5_86 o (shn hs 0 rfl) (shk hs 0 rfl : S.2.1 o = 5) rfl (c_X5_wordIn l D cy ad A aK aV C0 N S V o hs 8 (Nat.le_of_ble_eq_true rfl) r86 q87) ⟨⟨rfl, rfl, (by show 4 + 1 ≤ F; omega), (by show 8 + (6 + 11) + 85 ≤ L; omega)⟩, Nat.le_of_ble_eq_true rfl, Nat.le_of_ble_eq_true rfl⟩ rfl rfl (Nat.le_of_ble_eq_true rfl) dX5_readPlain_13) w (fun H locs w => ?_)
        refine lv_iconst (v := (-1)) hx hb dX5_readPlain_16 (by decide) ?_
        refine lv_icmp_eq (tgt := 30) hx hb dX5_readPlain_17 (by decide) (fun c88 => ?_) (fun c88 => ?_)
        · replace h := ifT h c88
          have g := B30 V v1 v2 h
          rw [hG] at g
          exact g H locs ls w (lv_sub hl [0, 1, 2] rfl)
        · replace h := ifF h c88
          refine lv_aload_n hx hb dX5_readPlain_20 rfl (lv_at hl 0 rfl) ?_
          obtain ⟨V91, q90, h⟩ := obvi h
          refine m_cv (m_rV (As := []) (rest := []) X w hl mi_X5_move ml_X5_53 o (shn hs 0 rfl) (shk hs 0 rfl : S.2.1 o = 5) rfl (c_X5_move l D cy ad A (KX A aK aV) C0 N S V o hs V91 q90) ⟨⟨rfl, rfl, (by show 0 + 1 ≤ F; omega), (by show 8 + (2 + 11) + 0 ≤ L; omega)⟩, Nat.le_of_ble_eq_true rfl, Nat.le_of_ble_eq_true rfl⟩ rfl rfl (Nat.le_of_ble_eq_true rfl) dX5_readPlain_21) w (fun H locs w => ?_)
          obtain ⟨x92, ex92⟩ : ∃ y : Int32, y = v2 + (1 : Int32) := ⟨_, rfl⟩
          replace h := bdi h _ ex92
          refine lv_iinc (v := x92) (lv' := [(2, .int x92), (0, .ref (ad o)), (1, .int v1)]) hx hb dX5_readPlain_24 hl (k := 2) rfl (by rw [ex92]; rfl) (by decide) rfl (fun ls hl => ?_)
          refine lv_goto (tgt := 2) hx hb dX5_readPlain_27 (by decide) ?_
          have g := ih2 V91 v1 x92 h
          rw [hG] at g
          exact g H locs ls w (lv_sub hl [1, 2, 0] rfl)
  rw [f_X5_readPlain] at h
  refine lv_iconst (v := 0) hx hb dX5_readPlain_0 (by decide) ?_
  refine lv_istore_n (lv' := [(2, .int (0 : Int32)), (0, .ref (ad o)), (1, .int a1)]) hx hb dX5_readPlain_1 rfl hl (by decide) rfl (fun ls hl => ?_)
  have g := L2 N V a1 (0 : Int32) h
  rw [hG] at g
  exact g H locs ls w (lv_sub hl [1, 2, 0] rfl)
def g_X5_readTest (N : Nat) (S : St) : Nat → Nat → Vt → Nat → Int32 → Option (Int32 × Vt)
  | 0, _, _, _, _ => none
  | d + 1, t, V, o, a => if t = 0 then f_X5_readTest N S (g_X5_readTest N S d) V o a else if t = 1 then f_X5_readBoth N S (g_X5_readTest N S d) V o a else f_X5_readPlain N S (g_X5_readTest N S d) V o a
theorem cg_X5_readTest (l : Launch) (D : va_G) (cy : Nat → ClassId) (ad : Nat → Nat) (A : Nat → Prop) (aK aV : Nat → Nat) (C0 : Cx ad A (KX A aK aV)) (N : Nat) (S : St) : ∀ d : Nat, RH_X5_readTest l D cy ad A aK aV S (g_X5_readTest N S d) (47 + d) (2555 + 60 * d) := by
  intro d
  induction d with
  | zero => exact ⟨(fun V o hs a1 r V' h => by rw [g_X5_readTest] at h; cases h), (fun V o hs a1 r V' h => by rw [g_X5_readTest] at h; cases h), (fun V o hs a1 r V' h => by rw [g_X5_readTest] at h; cases h)⟩
  | succ d ih =>
    exact ⟨(fun V o hs a1 r V' h => c_X5_readTest l D cy ad A aK aV C0 N S (g_X5_readTest N S d) (47 + d) (2555 + 60 * d) (47 + (d + 1)) (2555 + 60 * (d + 1)) (by omega) (by omega) (by omega) (by omega) ih V o hs a1 r V' (by rw [g_X5_readTest] at h; exact (ifT h rfl))), (fun V o hs a1 r V' h => c_X5_readBoth l D cy ad A aK aV C0 N S (g_X5_readTest N S d) (47 + d) (2555 + 60 * d) (47 + (d + 1)) (2555 + 60 * (d + 1)) (by omega) (by omega) (by omega) (by omega) ih V o hs a1 r V' (by rw [g_X5_readTest] at h; exact (ifT (ifF h (by decide)) rfl))), (fun V o hs a1 r V' h => c_X5_readPlain l D cy ad A aK aV C0 N S (g_X5_readTest N S d) (47 + d) (2555 + 60 * d) (47 + (d + 1)) (2555 + 60 * (d + 1)) (by omega) (by omega) (by omega) (by omega) ih V o hs a1 r V' (by rw [g_X5_readTest] at h; exact (ifF (ifF h (by decide)) (by decide))))⟩
