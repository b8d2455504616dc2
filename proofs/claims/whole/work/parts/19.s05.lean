abbrev RH_X5_readSum (l : Launch) (D : va_G) (cy : Nat → ClassId) (ad : Nat → Nat) (A : Nat → Prop) (aK aV : Nat → Nat) (S : St) (KR : Nat → Vt → Nat → Int32 → Option (Int32 × Vt)) (F L : Nat) : Prop := (∀ (V : Vt) (o : Nat) (hs : shp S o t5) (a1 : Int32) (r : Int32) (V' : Vt), KR 0 V o a1 = some (r, V') → Met l yX5_readSum (mw yX5_readSum cX5_readSum 5 (some .boolean)) { frames := F, cells := 0, slots := 0, locals := L } (PreM D cy ad (KX A aK aV) S V [.ref (ad o), .int a1]) (QI D cy ad A r S V') 0 0 A) ∧ (∀ (V : Vt) (o : Nat) (hs : shp S o t5) (a1 : Int32) (r : Int32) (V' : Vt), KR 1 V o a1 = some (r, V') → Met l yX5_readTerm (mw yX5_readTerm cX5_readTerm 5 (some .boolean)) { frames := F, cells := 0, slots := 0, locals := L } (PreM D cy ad (KX A aK aV) S V [.ref (ad o), .int a1]) (QI D cy ad A r S V') 0 0 A) ∧ (∀ (V : Vt) (o : Nat) (hs : shp S o t5) (a1 : Int32) (r : Int32) (V' : Vt), KR 2 V o a1 = some (r, V') → Met l yX5_readPart (mw yX5_readPart cX5_readPart 4 (some .boolean)) { frames := F, cells := 0, slots := 0, locals := L } (PreM D cy ad (KX A aK aV) S V [.ref (ad o), .int a1]) (QI D cy ad A r S V') 0 0 A)
def f_X5_readSum_8 (N : Nat) (S : St) (KR : Nat → Vt → Nat → Int32 → Option (Int32 × Vt)) (o : Nat) : Nat → Vt → Int32 → Int32 → Int32 → Option (Int32 × Vt)
  | 0, _, _, _, _ => none
  | n + 1, V, v1, v2, v3 => if (V.1 o 5) ≤ v3 then cb v2 (some (v2, V)) else if v2 = 0 then cb v2 (some (v2, V)) else ob1 (f_X5_wordIn N S V o 6) (fun r23 => if r23 = (-1 : Int32) then some ((1 : Int32), V) else obv (f_X5_move N S V o) (fun V28 => ob (KR 1 V28 o v1) (fun r29 V31 => ob (f_X5_put N S V31 o ((3 : Int32) + r23) (0 : Int32)) (fun r32 V34 => bd (v3 + (1 : Int32)) (fun x35 => (f_X5_readSum_8 N S KR o n) V34 v1 r29 x35)))))
def f_X5_readSum (N : Nat) (S : St) (KR : Nat → Vt → Nat → Int32 → Option (Int32 × Vt)) (V : Vt) (o : Nat) (a1 : Int32) : Option (Int32 × Vt) := ob (KR 1 V o a1) (fun r16 V18 => f_X5_readSum_8 N S KR o N V18 a1 r16 (0 : Int32))
set_option maxHeartbeats 4000000 in
set_option maxRecDepth 100000 in
theorem c_X5_readSum (l : Launch) (D : va_G) (cy : Nat → ClassId) (ad : Nat → Nat) (A : Nat → Prop) (aK aV : Nat → Nat) (C0 : Cx ad A (KX A aK aV)) (N : Nat) (S : St) (KR : Nat → Vt → Nat → Int32 → Option (Int32 × Vt)) (Fk Lk F L : Nat) (hF : Fk + 1 ≤ F) (hL : Lk + 60 ≤ L) (hF0 : 6 ≤ F) (hL0 : 131 ≤ L) (hKR : RH_X5_readSum l D cy ad A aK aV S KR Fk Lk) (V : Vt) (o : Nat) (hs : shp S o t5) (a1 : Int32) (r : Int32) (V' : Vt) (h : f_X5_readSum N S KR V o a1 = some (r, V')) : Met l yX5_readSum (mw yX5_readSum cX5_readSum 5 (some .boolean)) { frames := F, cells := 0, slots := 0, locals := L } (PreM D cy ad (KX A aK aV) S V [.ref (ad o), .int a1]) (QI D cy ad A r S V') 0 0 A := by
  refine ct_goK C0 (own := RX5) rfl (by decide) rfl ?_
  intro p e s m below meth c ls H locs hKc X hr hlocks hnm hl w
  have hx := X.1.1
  have hb := X.1.2.1
  have hown := X.2.1
  have hts := X.2.2.1
  have hl : lv_has ls 5 [(0, .ref (ad o)), (1, .int a1)] := hl
  obtain ⟨G, hG⟩ : ∃ G : Nat → Vt → List (Nat × Value) → List Value → Prop, G = fun pc V lv st => ∀ (H : Heap) (locs : List Loc) (ls : Array Slot), Wd D cy ad A s.heap S V H locs → lv_has ls 5 lv → W p l e { frames := F, cells := 0, slots := 0, locals := L } s m ([.ref (ad o), .int a1] : List Value).toArray below meth c H locs 0 0 (MQ below (QI D cy ad A r S V') ([.ref (ad o), .int a1] : List Value).toArray s 0 0 A) (F0 m pc ls st) := ⟨_, rfl⟩
  have L8 : ∀ (n8 : Nat) (V : Vt) (v1 : Int32) (v2 : Int32) (v3 : Int32), f_X5_readSum_8 N S KR o n8 V v1 v2 v3 = some (r, V') → G 8 V [(0, .ref (ad o)), (1, .int v1), (2, .int v2), (3, .int v3)] [] := by
    intro n8
    induction n8 with
    | zero => intro V v1 v2 v3 h; rw [f_X5_readSum_8] at h; cases h
    | succ n8 ih8 =>
      intro V v1 v2 v3 h
      rw [hG]
      intro H locs ls w hl
      rw [f_X5_readSum_8] at h
      refine lv_iload_n hx hb dX5_readSum_8 rfl (lv_at hl 3 rfl) ?_
      refine lv_aload_n hx hb dX5_readSum_9 rfl (lv_at hl 0 rfl) ?_
      refine m_get X w o (shn hs 0 rfl) (shk hs 0 rfl : S.2.1 o = 5) ci5 5 (by decide) (fvI (shk hs 0 rfl : S.2.1 o = 5) rfl) rfl fl_X5_38 dX5_readSum_10 ?_
      refine lv_icmp_ge (tgt := 62) hx hb dX5_readSum_13 (by decide) (fun c19 => ?_) (fun c19 => ?_)
      · replace h := ifT h c19
        refine lv_iload_n hx hb dX5_readSum_62 rfl (lv_at hl 2 rfl) ?_
        obtain ⟨g20, h⟩ := cbi h
        obtain ⟨rfl, rfl⟩ := reti h
        exact m_rz X w hr (nb01 g20) hlocks dX5_readSum_63
      · replace h := ifF h c19
        refine lv_iload_n hx hb dX5_readSum_16 rfl (lv_at hl 2 rfl) ?_
        refine lv_if_eq (tgt := 62) hx hb dX5_readSum_17 (by decide) (fun c21 => ?_) (fun c21 => ?_)
        · replace h := ifT h c21
          refine lv_iload_n hx hb dX5_readSum_62 rfl (lv_at hl 2 rfl) ?_
          obtain ⟨g22, h⟩ := cbi h
          obtain ⟨rfl, rfl⟩ := reti h
          exact m_rz X w hr (nb01 g22) hlocks dX5_readSum_63
        · replace h := ifF h c21
          refine lv_aload_n hx hb dX5_readSum_20 rfl (lv_at hl 0 rfl) ?_
          refine va_ldcS hx hb hown (ks_6 hKc) dX5_readSum_21 ?_
          obtain ⟨r23, q24, h⟩ := ob1i h
          refine m_ci (m_rV (As := [.ref (aK 6)]) (rest := []) X w hl mi_X5_wordIn ml_X5_86 o (shn hs 0 rfl) (shk hs 0 rfl : S.2.1 o = 5) rfl (c_X5_wordIn l D cy ad A aK aV C0 N S V o hs 6 (Nat.le_of_ble_eq_true rfl) r23 q24) ⟨⟨rfl, rfl, (by show 4 + 1 ≤ F; omega), (by show 8 + (6 + 11) + 85 ≤ L; omega)⟩, Nat.le_of_ble_eq_true rfl, Nat.le_of_ble_eq_true rfl⟩ rfl rfl (Nat.le_of_ble_eq_true rfl) dX5_readSum_23) w (fun H locs w => ?_)
          refine lv_istore (lv' := [(4, .int r23), (0, .ref (ad o)), (1, .int v1), (2, .int v2), (3, .int v3)]) hx hb dX5_readSum_26 hl (by decide) rfl (fun ls hl => ?_)
          refine lv_iload hx hb dX5_readSum_28 (lv_at hl 0 rfl) ?_
          refine lv_iconst (v := (-1)) hx hb dX5_readSum_30 (by decide) ?_
          refine lv_icmp_ne (tgt := 36) hx hb dX5_readSum_31 (by decide) (fun c25 => ?_) (fun c25 => ?_)
          · replace h := ifF h c25
            refine lv_aload_n hx hb dX5_readSum_36 rfl (lv_at hl 1 rfl) ?_
            obtain ⟨V28, q27, h⟩ := obvi h
            refine m_cv (m_rV (As := []) (rest := []) X w hl mi_X5_move ml_X5_53 o (shn hs 0 rfl) (shk hs 0 rfl : S.2.1 o = 5) rfl (c_X5_move l D cy ad A (KX A aK aV) C0 N S V o hs V28 q27) ⟨⟨rfl, rfl, (by show 0 + 1 ≤ F; omega), (by show 8 + (2 + 11) + 0 ≤ L; omega)⟩, Nat.le_of_ble_eq_true rfl, Nat.le_of_ble_eq_true rfl⟩ rfl rfl (Nat.le_of_ble_eq_true rfl) dX5_readSum_37) w (fun H locs w => ?_)
            refine lv_aload_n hx hb dX5_readSum_40 rfl (lv_at hl 1 rfl) ?_
            refine lv_iload_n hx hb dX5_readSum_41 rfl (lv_at hl 2 rfl) ?_
            obtain ⟨r29, V31, q30, h⟩ := obi h
            refine m_ci (m_rV (As := [.int v1]) (rest := []) X w hl mi_X5_readTerm ml_X5_152 o (shn hs 0 rfl) (shk hs 0 rfl : S.2.1 o = 5) rfl (hKR.2.1 V28 o hs v1 r29 V31 q30) ⟨⟨rfl, rfl, hF, (by show 8 + (5 + 11) + Lk ≤ L; omega)⟩, Nat.le_of_ble_eq_true rfl, Nat.le_of_ble_eq_true rfl⟩ rfl rfl (Nat.le_of_ble_eq_true rfl) dX5_readSum_42) w (fun H locs w => ?_)
            refine lv_istore_n (lv' := [(2, .int r29), (4, .int r23), (0, .ref (ad o)), (1, .int v1), (3, .int v3)]) hx hb dX5_readSum_45 rfl hl (by decide) rfl (fun ls hl => ?_)
            refine lv_aload_n hx hb dX5_readSum_46 rfl (lv_at hl 2 rfl) ?_
            refine lv_iconst (v := 3) hx hb dX5_readSum_47 (by decide) ?_
            refine lv_iload hx hb dX5_readSum_48 (lv_at hl 1 rfl) ?_
            refine lv_iadd hx hb dX5_readSum_50 ?_
            refine lv_iconst (v := 0) hx hb dX5_readSum_51 (by decide) ?_
            obtain ⟨r32, V34, q33, h⟩ := obi h
            refine m_ci (m_rV (As := [.int ((3 : Int32) + r23), .int (0 : Int32)]) (rest := []) X w hl mi_X5_put ml_X5_117 o (shn hs 0 rfl) (shk hs 0 rfl : S.2.1 o = 5) rfl (c_X5_put l D cy ad A (KX A aK aV) C0 N S V31 o hs ((3 : Int32) + r23) (0 : Int32) r32 V34 q33) ⟨⟨rfl, rfl, (by show 0 + 1 ≤ F; omega), (by show 8 + (4 + 11) + 0 ≤ L; omega)⟩, Nat.le_of_ble_eq_true rfl, Nat.le_of_ble_eq_true rfl⟩ rfl rfl (Nat.le_of_ble_eq_true rfl) dX5_readSum_52) w (fun H locs w => ?_)
            refine lv_pop hx hb dX5_readSum_55 rfl ?_
            obtain ⟨x35, ex35⟩ : ∃ y : Int32, y = v3 + (1 : Int32) := ⟨_, rfl⟩
            replace h := bdi h _ ex35
            refine lv_iinc (v := x35) (lv' := [(3, .int x35), (2, .int r29), (4, .int r23), (0, .ref (ad o)), (1, .int v1)]) hx hb dX5_readSum_56 hl (k := 4) rfl (by rw [ex35]; rfl) (by decide) rfl (fun ls hl => ?_)
            refine lv_goto (tgt := 8) hx hb dX5_readSum_59 (by decide) ?_
            have g := ih8 V34 v1 r29 x35 h
            rw [hG] at g
            exact g H locs ls w (lv_sub hl [3, 4, 1, 0] rfl)
          · replace h := ifT h c25
            refine lv_iconst (v := 1) hx hb dX5_readSum_34 (by decide) ?_
            obtain ⟨rfl, rfl⟩ := reti h
            exact m_rz X w hr rfl hlocks dX5_readSum_35
  rw [f_X5_readSum] at h
  refine lv_aload_n hx hb dX5_readSum_0 rfl (lv_at hl 0 rfl) ?_
  refine lv_iload_n hx hb dX5_readSum_1 rfl (lv_at hl 1 rfl) ?_
  obtain ⟨r16, V18, q17, h⟩ := obi h
  refine m_ci (m_rV (As := [.int a1]) (rest := []) X w hl mi_X5_readTerm ml_X5_152 o (shn hs 0 rfl) (shk hs 0 rfl : S.2.1 o = 5) rfl (hKR.2.1 V o hs a1 r16 V18 q17) ⟨⟨rfl, rfl, hF, (by show 8 + (5 + 11) + Lk ≤ L; omega)⟩, Nat.le_of_ble_eq_true rfl, Nat.le_of_ble_eq_true rfl⟩ rfl rfl (Nat.le_of_ble_eq_true rfl) dX5_readSum_2) w (fun H locs w => ?_)
  refine lv_istore_n (lv' := [(2, .int r16), (0, .ref (ad o)), (1, .int a1)]) hx hb dX5_readSum_5 rfl hl (by decide) rfl (fun ls hl => ?_)
  refine lv_iconst (v := 0) hx hb dX5_readSum_6 (by decide) ?_
  refine lv_istore_n (lv' := [(3, .int (0 : Int32)), (2, .int r16), (0, .ref (ad o)), (1, .int a1)]) hx hb dX5_readSum_7 rfl hl (by decide) rfl (fun ls hl => ?_)
  have g := L8 N V18 a1 r16 (0 : Int32) h
  rw [hG] at g
  exact g H locs ls w (lv_sub hl [2, 3, 1, 0] rfl)
def f_X5_readTerm_8 (N : Nat) (S : St) (KR : Nat → Vt → Nat → Int32 → Option (Int32 × Vt)) (o : Nat) : Nat → Vt → Int32 → Int32 → Int32 → Option (Int32 × Vt)
  | 0, _, _, _, _ => none
  | n + 1, V, v1, v2, v3 => if (V.1 o 5) ≤ v3 then cb v2 (some (v2, V)) else if v2 = 0 then cb v2 (some (v2, V)) else ob1 (f_X5_wordIn N S V o 5) (fun r23 => if r23 = (-1 : Int32) then some ((1 : Int32), V) else obv (f_X5_move N S V o) (fun V28 => ob (KR 2 V28 o v1) (fun r29 V31 => ob (f_X5_put N S V31 o ((5 : Int32) + r23) (0 : Int32)) (fun r32 V34 => bd (v3 + (1 : Int32)) (fun x35 => (f_X5_readTerm_8 N S KR o n) V34 v1 r29 x35)))))
def f_X5_readTerm (N : Nat) (S : St) (KR : Nat → Vt → Nat → Int32 → Option (Int32 × Vt)) (V : Vt) (o : Nat) (a1 : Int32) : Option (Int32 × Vt) := ob (KR 2 V o a1) (fun r16 V18 => f_X5_readTerm_8 N S KR o N V18 a1 r16 (0 : Int32))
set_option maxHeartbeats 4000000 in
set_option maxRecDepth 100000 in
theorem c_X5_readTerm (l : Launch) (D : va_G) (cy : Nat → ClassId) (ad : Nat → Nat) (A : Nat → Prop) (aK aV : Nat → Nat) (C0 : Cx ad A (KX A aK aV)) (N : Nat) (S : St) (KR : Nat → Vt → Nat → Int32 → Option (Int32 × Vt)) (Fk Lk F L : Nat) (hF : Fk + 1 ≤ F) (hL : Lk + 60 ≤ L) (hF0 : 6 ≤ F) (hL0 : 131 ≤ L) (hKR : RH_X5_readSum l D cy ad A aK aV S KR Fk Lk) (V : Vt) (o : Nat) (hs : shp S o t5) (a1 : Int32) (r : Int32) (V' : Vt) (h : f_X5_readTerm N S KR V o a1 = some (r, V')) : Met l yX5_readTerm (mw yX5_readTerm cX5_readTerm 5 (some .boolean)) { frames := F, cells := 0, slots := 0, locals := L } (PreM D cy ad (KX A aK aV) S V [.ref (ad o), .int a1]) (QI D cy ad A r S V') 0 0 A := by
  refine ct_goK C0 (own := RX5) rfl (by decide) rfl ?_
  intro p e s m below meth c ls H locs hKc X hr hlocks hnm hl w
  have hx := X.1.1
  have hb := X.1.2.1
  have hown := X.2.1
  have hts := X.2.2.1
  have hl : lv_has ls 5 [(0, .ref (ad o)), (1, .int a1)] := hl
  obtain ⟨G, hG⟩ : ∃ G : Nat → Vt → List (Nat × Value) → List Value → Prop, G = fun pc V lv st => ∀ (H : Heap) (locs : List Loc) (ls : Array Slot), Wd D cy ad A s.heap S V H locs → lv_has ls 5 lv → W p l e { frames := F, cells := 0, slots := 0, locals := L } s m ([.ref (ad o), .int a1] : List Value).toArray below meth c H locs 0 0 (MQ below (QI D cy ad A r S V') ([.ref (ad o), .int a1] : List Value).toArray s 0 0 A) (F0 m pc ls st) := ⟨_, rfl⟩
  have L8 : ∀ (n8 : Nat) (V : Vt) (v1 : Int32) (v2 : Int32) (v3 : Int32), f_X5_readTerm_8 N S KR o n8 V v1 v2 v3 = some (r, V') → G 8 V [(0, .ref (ad o)), (1, .int v1), (2, .int v2), (3, .int v3)] [] := by
    intro n8
    induction n8 with
    | zero => intro V v1 v2 v3 h; rw [f_X5_readTerm_8] at h; cases h
    | succ n8 ih8 =>
      intro V v1 v2 v3 h
      rw [hG]
      intro H locs ls w hl
      rw [f_X5_readTerm_8] at h
      refine lv_iload_n hx hb dX5_readTerm_8 rfl (lv_at hl 3 rfl) ?_
      refine lv_aload_n hx hb dX5_readTerm_9 rfl (lv_at hl 0 rfl) ?_
      refine m_get X w o (shn hs 0 rfl) (shk hs 0 rfl : S.2.1 o = 5) ci5 5 (by decide) (fvI (shk hs 0 rfl : S.2.1 o = 5) rfl) rfl fl_X5_38 dX5_readTerm_10 ?_
      refine lv_icmp_ge (tgt := 62) hx hb dX5_readTerm_13 (by decide) (fun c19 => ?_) (fun c19 => ?_)
      · replace h := ifT h c19
        refine lv_iload_n hx hb dX5_readTerm_62 rfl (lv_at hl 2 rfl) ?_
        obtain ⟨g20, h⟩ := cbi h
        obtain ⟨rfl, rfl⟩ := reti h
        exact m_rz X w hr (nb01 g20) hlocks dX5_readTerm_63
      · replace h := ifF h c19
        refine lv_iload_n hx hb dX5_readTerm_16 rfl (lv_at hl 2 rfl) ?_
        refine lv_if_eq (tgt := 62) hx hb dX5_readTerm_17 (by decide) (fun c21 => ?_) (fun c21 => ?_)
        · replace h := ifT h c21
          refine lv_iload_n hx hb dX5_readTerm_62 rfl (lv_at hl 2 rfl) ?_
          obtain ⟨g22, h⟩ := cbi h
          obtain ⟨rfl, rfl⟩ := reti h
          exact m_rz X w hr (nb01 g22) hlocks dX5_readTerm_63
        · replace h := ifF h c21
          refine lv_aload_n hx hb dX5_readTerm_20 rfl (lv_at hl 0 rfl) ?_
          refine va_ldcS hx hb hown (ks_5 hKc) dX5_readTerm_21 ?_
          obtain ⟨r23, q24, h⟩ := ob1i h
          refine m_ci (m_rV (As := [.ref (aK 5)]) (rest := []) X w hl mi_X5_wordIn ml_X5_86 o (shn hs 0 rfl) (shk hs 0 rfl : S.2.1 o = 5) rfl (c_X5_wordIn l D cy ad A aK aV C0 N S V o hs 5 (Nat.le_of_ble_eq_true rfl) r23 q24) ⟨⟨rfl, rfl, (by show 4 + 1 ≤ F; omega), (by show 8 + (6 + 11) + 85 ≤ L; omega)⟩, Nat.le_of_ble_eq_true rfl, Nat.le_of_ble_eq_true rfl⟩ rfl rfl (Nat.le_of_ble_eq_true rfl) dX5_readTerm_23) w (fun H locs w => ?_)
          refine lv_istore (lv' := [(4, .int r23), (0, .ref (ad o)), (1, .int v1), (2, .int v2), (3, .int v3)]) hx hb dX5_readTerm_26 hl (by decide) rfl (fun ls hl => ?_)
          refine lv_iload hx hb dX5_readTerm_28 (lv_at hl 0 rfl) ?_
          refine lv_iconst (v := (-1)) hx hb dX5_readTerm_30 (by decide) ?_
          refine lv_icmp_ne (tgt := 36) hx hb dX5_readTerm_31 (by decide) (fun c25 => ?_) (fun c25 => ?_)
          · replace h := ifF h c25
            refine lv_aload_n hx hb dX5_readTerm_36 rfl (lv_at hl 1 rfl) ?_
            obtain ⟨V28, q27, h⟩ := obvi h
            refine m_cv (m_rV (As := []) (rest := []) X w hl mi_X5_move ml_X5_53 o (shn hs 0 rfl) (shk hs 0 rfl : S.2.1 o = 5) rfl (c_X5_move l D cy ad A (KX A aK aV) C0 N S V o hs V28 q27) ⟨⟨rfl, rfl, (by show 0 + 1 ≤ F; omega), (by show 8 + (2 + 11) + 0 ≤ L; omega)⟩, Nat.le_of_ble_eq_true rfl, Nat.le_of_ble_eq_true rfl⟩ rfl rfl (Nat.le_of_ble_eq_true rfl) dX5_readTerm_37) w (fun H locs w => ?_)
            refine lv_aload_n hx hb dX5_readTerm_40 rfl (lv_at hl 1 rfl) ?_
            refine lv_iload_n hx hb dX5_readTerm_41 rfl (lv_at hl 2 rfl) ?_
            obtain ⟨r29, V31, q30, h⟩ := obi h
            refine m_ci (m_rV (As := [.int v1]) (rest := []) X w hl mi_X5_readPart ml_X5_157 o (shn hs 0 rfl) (shk hs 0 rfl : S.2.1 o = 5) rfl (hKR.2.2 V28 o hs v1 r29 V31 q30) ⟨⟨rfl, rfl, hF, (by show 8 + (4 + 11) + Lk ≤ L; omega)⟩, Nat.le_of_ble_eq_true rfl, Nat.le_of_ble_eq_true rfl⟩ rfl rfl (Nat.le_of_ble_eq_true rfl) dX5_readTerm_42) w (fun H locs w => ?_)
            refine lv_istore_n (lv' := [(2, .int r29), (4, .int r23), (0, .ref (ad o)), (1, .int v1), (3, .int v3)]) hx hb dX5_readTerm_45 rfl hl (by decide) rfl (fun ls hl => ?_)
            refine lv_aload_n hx hb dX5_readTerm_46 rfl (lv_at hl 2 rfl) ?_
            refine lv_iconst (v := 5) hx hb dX5_readTerm_47 (by decide) ?_
            refine lv_iload hx hb dX5_readTerm_48 (lv_at hl 1 rfl) ?_
            refine lv_iadd hx hb dX5_readTerm_50 ?_
            refine lv_iconst (v := 0) hx hb dX5_readTerm_51 (by decide) ?_
            obtain ⟨r32, V34, q33, h⟩ := obi h
            refine m_ci (m_rV (As := [.int ((5 : Int32) + r23), .int (0 : Int32)]) (rest := []) X w hl mi_X5_put ml_X5_117 o (shn hs 0 rfl) (shk hs 0 rfl : S.2.1 o = 5) rfl (c_X5_put l D cy ad A (KX A aK aV) C0 N S V31 o hs ((5 : Int32) + r23) (0 : Int32) r32 V34 q33) ⟨⟨rfl, rfl, (by show 0 + 1 ≤ F; omega), (by show 8 + (4 + 11) + 0 ≤ L; omega)⟩, Nat.le_of_ble_eq_true rfl, Nat.le_of_ble_eq_true rfl⟩ rfl rfl (Nat.le_of_ble_eq_true rfl) dX5_readTerm_52) w (fun H locs w => ?_)
            refine lv_pop hx hb dX5_readTerm_55 rfl ?_
            obtain ⟨x35, ex35⟩ : ∃ y : Int32, y = v3 + (1 : Int32) := ⟨_, rfl⟩
            replace h := bdi h _ ex35
            refine lv_iinc (v := x35) (lv' := [(3, .int x35), (2, .int r29), (4, .int r23), (0, .ref (ad o)), (1, .int v1)]) hx hb dX5_readTerm_56 hl (k := 4) rfl (by rw [ex35]; rfl) (by decide) rfl (fun ls hl => ?_)
            refine lv_goto (tgt := 8) hx hb dX5_readTerm_59 (by decide) ?_
            have g := ih8 V34 v1 r29 x35 h
            rw [hG] at g
            exact g H locs ls w (lv_sub hl [3, 4, 1, 0] rfl)
          · replace h := ifT h c25
            refine lv_iconst (v := 1) hx hb dX5_readTerm_34 (by decide) ?_
            obtain ⟨rfl, rfl⟩ := reti h
            exact m_rz X w hr rfl hlocks dX5_readTerm_35
  rw [f_X5_readTerm] at h
  refine lv_aload_n hx hb dX5_readTerm_0 rfl (lv_at hl 0 rfl) ?_
  refine lv_iload_n hx hb dX5_readTerm_1 rfl (lv_at hl 1 rfl) ?_
  obtain ⟨r16, V18, q17, h⟩ := obi h
  refine m_ci (m_rV (As := [.int a1]) (rest := []) X w hl mi_X5_readPart ml_X5_157 o (shn hs 0 rfl) (shk hs 0 rfl : S.2.1 o = 5) rfl (hKR.2.2 V o hs a1 r16 V18 q17) ⟨⟨rfl, rfl, hF, (by show 8 + (4 + 11) + Lk ≤ L; omega)⟩, Nat.le_of_ble_eq_true rfl, Nat.le_of_ble_eq_true rfl⟩ rfl rfl (Nat.le_of_ble_eq_true rfl) dX5_readTerm_2) w (fun H locs w => ?_)
  refine lv_istore_n (lv' := [(2, .int r16), (0, .ref (ad o)), (1, .int a1)]) hx hb dX5_readTerm_5 rfl hl (by decide) rfl (fun ls hl => ?_)
  refine lv_iconst (v := 0) hx hb dX5_readTerm_6 (by decide) ?_
  refine lv_istore_n (lv' := [(3, .int (0 : Int32)), (2, .int r16), (0, .ref (ad o)), (1, .int a1)]) hx hb dX5_readTerm_7 rfl hl (by decide) rfl (fun ls hl => ?_)
  have g := L8 N V18 a1 r16 (0 : Int32) h
  rw [hG] at g
  exact g H locs ls w (lv_sub hl [2, 3, 1, 0] rfl)
def f_X5_readPart_96 (N : Nat) (S : St) (KR : Nat → Vt → Nat → Int32 → Option (Int32 × Vt)) (o : Nat) (V : Vt) : Option (Int32 × Vt) := ob (f_X5_fails N S V o) (fun r54 V56 => cb r54 (some (r54, V56)))
def f_X5_readPart_87 (N : Nat) (S : St) (KR : Nat → Vt → Nat → Int32 → Option (Int32 × Vt)) (o : Nat) (V : Vt) (v2 : Int32) (v3 : Int32) : Option (Int32 × Vt) := if (V.1 o 9) < (50 : Int32) then bd (sF V o 9 ((V.1 o 9) + (1 : Int32))) (fun V42 => obv (f_X5_move N S V42 o) (fun V45 => if v2 = (-1 : Int32) then ob (f_X5_readWord N S V45 o v3) (fun r47 V49 => cb r47 (some (r47, V49))) else ob (f_X5_put N S V45 o (1 : Int32) v2) (fun r51 V53 => some ((1 : Int32), V53)))) else f_X5_readPart_96 N S KR o V 
def f_X5_readPart_73 (N : Nat) (S : St) (KR : Nat → Vt → Nat → Int32 → Option (Int32 × Vt)) (o : Nat) (V : Vt) (v2 : Int32) (s0 : Nat) : Option (Int32 × Vt) := cg (Nat.blt s0 20) (ob1 (f_X5_wordIn N S V o s0) (fun r38 => if v2 = (-1 : Int32) then if r38 = (-1 : Int32) then f_X5_readPart_96 N S KR o V  else f_X5_readPart_87 N S KR o V v2 r38 else f_X5_readPart_87 N S KR o V v2 r38))
def f_X5_readPart (N : Nat) (S : St) (KR : Nat → Vt → Nat → Int32 → Option (Int32 × Vt)) (V : Vt) (o : Nat) (a1 : Int32) : Option (Int32 × Vt) := ob1 (f_X5_wordIn N S V o 1) (fun r32 => if r32 = (-1 : Int32) then ob1 (f_X5_numberTo N S V o (1000 : Int32)) (fun r35 => if (V.1 o 4) = 0 then f_X5_readPart_73 N S KR o V r35 4 else f_X5_readPart_73 N S KR o V r35 3) else if a1 < (8 : Int32) then obv (f_X5_move N S V o) (fun V62 => ob (KR 0 V62 o (a1 + (1 : Int32))) (fun r63 V65 => if r63 = 0 then some ((0 : Int32), V65) else ob (f_X5_readSign N S V65 o 2) (fun r67 V69 => if r67 = 0 then some ((0 : Int32), V69) else some ((1 : Int32), V69)))) else ob (f_X5_fails N S V o) (fun r71 V73 => cb r71 (some (r71, V73))))
set_option maxHeartbeats 4000000 in
set_option maxRecDepth 100000 in
theorem c_X5_readPart (l : Launch) (D : va_G) (cy : Nat → ClassId) (ad : Nat → Nat) (A : Nat → Prop) (aK aV : Nat → Nat) (C0 : Cx ad A (KX A aK aV)) (N : Nat) (S : St) (KR : Nat → Vt → Nat → Int32 → Option (Int32 × Vt)) (Fk Lk F L : Nat) (hF : Fk + 1 ≤ F) (hL : Lk + 60 ≤ L) (hF0 : 6 ≤ F) (hL0 : 131 ≤ L) (hKR : RH_X5_readSum l D cy ad A aK aV S KR Fk Lk) (V : Vt) (o : Nat) (hs : shp S o t5) (a1 : Int32) (r : Int32) (V' : Vt) (h : f_X5_readPart N S KR V o a1 = some (r, V')) : Met l yX5_readPart (mw yX5_readPart cX5_readPart 4 (some .boolean)) { frames := F, cells := 0, slots := 0, locals := L } (PreM D cy ad (KX A aK aV) S V [.ref (ad o), .int a1]) (QI D cy ad A r S V') 0 0 A := by
  refine ct_goK C0 (own := RX5) rfl (by decide) rfl ?_
  intro p e s m below meth c ls H locs hKc X hr hlocks hnm hl w
  have hx := X.1.1
  have hb := X.1.2.1
  have hown := X.2.1
  have hts := X.2.2.1
  have hl : lv_has ls 4 [(0, .ref (ad o)), (1, .int a1)] := hl
  obtain ⟨G, hG⟩ : ∃ G : Nat → Vt → List (Nat × Value) → List Value → Prop, G = fun pc V lv st => ∀ (H : Heap) (locs : List Loc) (ls : Array Slot), Wd D cy ad A s.heap S V H locs → lv_has ls 4 lv → W p l e { frames := F, cells := 0, slots := 0, locals := L } s m ([.ref (ad o), .int a1] : List Value).toArray below meth c H locs 0 0 (MQ below (QI D cy ad A r S V') ([.ref (ad o), .int a1] : List Value).toArray s 0 0 A) (F0 m pc ls st) := ⟨_, rfl⟩
  have B96 : ∀ (V : Vt), f_X5_readPart_96 N S KR o V  = some (r, V') → G 96 V [(0, .ref (ad o))] [] := by
    intro V  h
    rw [hG]
    intro H locs ls w hl
    rw [f_X5_readPart_96] at h
    refine lv_aload_n hx hb dX5_readPart_96 rfl (lv_at hl 0 rfl) ?_
    obtain ⟨r54, V56, q55, h⟩ := obi h
    refine m_ci (m_rV (As := []) (rest := []) X w hl mi_X5_fails ml_X5_81 o (shn hs 0 rfl) (shk hs 0 rfl : S.2.1 o = 5) rfl (c_X5_fails l D cy ad A (KX A aK aV) C0 N S V o hs r54 V56 q55) ⟨⟨rfl, rfl, (by show 0 + 1 ≤ F; omega), (by show 8 + (1 + 11) + 0 ≤ L; omega)⟩, Nat.le_of_ble_eq_true rfl, Nat.le_of_ble_eq_true rfl⟩ rfl rfl (Nat.le_of_ble_eq_true rfl) dX5_readPart_97) w (fun H locs w => ?_)
    obtain ⟨g57, h⟩ := cbi h
    obtain ⟨rfl, rfl⟩ := reti h
    exact m_rz X w hr (nb01 g57) hlocks dX5_readPart_100
  have B87 : ∀ (V : Vt) (v2 : Int32) (v3 : Int32), f_X5_readPart_87 N S KR o V v2 v3 = some (r, V') → G 87 V [(0, .ref (ad o)), (2, .int v2), (3, .int v3)] [] := by
    intro V v2 v3 h
    rw [hG]
    intro H locs ls w hl
    rw [f_X5_readPart_87] at h
    refine lv_aload_n hx hb dX5_readPart_87 rfl (lv_at hl 0 rfl) ?_
    refine m_get X w o (shn hs 0 rfl) (shk hs 0 rfl : S.2.1 o = 5) ci5 9 (by decide) (fvI (shk hs 0 rfl : S.2.1 o = 5) rfl) rfl fl_X5_44 dX5_readPart_88 ?_
    refine lv_bipush (v := 50) hx hb dX5_readPart_91 (by decide) ?_
    refine lv_icmp_lt (tgt := 101) hx hb dX5_readPart_93 (by decide) (fun c41 => ?_) (fun c41 => ?_)
    · replace h := ifT h c41
      refine lv_aload_n hx hb dX5_readPart_101 rfl (lv_at hl 0 rfl) ?_
      refine lv_dup hx hb dX5_readPart_102 rfl ?_
      refine m_get X w o (shn hs 0 rfl) (shk hs 0 rfl : S.2.1 o = 5) ci5 9 (by decide) (fvI (shk hs 0 rfl : S.2.1 o = 5) rfl) rfl fl_X5_44 dX5_readPart_103 ?_
      refine lv_iconst (v := 1) hx hb dX5_readPart_106 (by decide) ?_
      refine lv_iadd hx hb dX5_readPart_107 ?_
      refine m_put X w o (shn hs 0 rfl) (shk hs 0 rfl : S.2.1 o = 5) ci5 9 (by decide) rfl rfl rfl rfl rfl fl_X5_44 dX5_readPart_108 (fun V42 H locs eV42 w => ?_)
      replace h := bdi h _ eV42
      refine lv_aload_n hx hb dX5_readPart_111 rfl (lv_at hl 0 rfl) ?_
      obtain ⟨V45, q44, h⟩ := obvi h
      refine m_cv (m_rV (As := []) (rest := []) X w hl mi_X5_move ml_X5_53 o (shn hs 0 rfl) (shk hs 0 rfl : S.2.1 o = 5) rfl (c_X5_move l D cy ad A (KX A aK aV) C0 N S V42 o hs V45 q44) ⟨⟨rfl, rfl, (by show 0 + 1 ≤ F; omega), (by show 8 + (2 + 11) + 0 ≤ L; omega)⟩, Nat.le_of_ble_eq_true rfl, Nat.le_of_ble_eq_true rfl⟩ rfl rfl (Nat.le_of_ble_eq_true rfl) dX5_readPart_112) w (fun H locs w => ?_)
      refine lv_iload_n hx hb dX5_readPart_115 rfl (lv_at hl 1 rfl) ?_
      refine lv_iconst (v := (-1)) hx hb dX5_readPart_116 (by decide) ?_
      refine lv_icmp_eq (tgt := 129) hx hb dX5_readPart_117 (by decide) (fun c46 => ?_) (fun c46 => ?_)
      · replace h := ifT h c46
        refine lv_aload_n hx hb dX5_readPart_129 rfl (lv_at hl 0 rfl) ?_
        refine lv_iload_n hx hb dX5_readPart_130 rfl (lv_at hl 2 rfl) ?_
        obtain ⟨r47, V49, q48, h⟩ := obi h
        refine m_ci (m_rV (As := [.int v3]) (rest := []) X w hl mi_X5_readWord ml_X5_170 o (shn hs 0 rfl) (shk hs 0 rfl : S.2.1 o = 5) rfl (c_X5_readWord l D cy ad A (KX A aK aV) C0 N S V45 o hs v3 r47 V49 q48) ⟨⟨rfl, rfl, (by show 2 + 1 ≤ F; omega), (by show 8 + (5 + 11) + 63 ≤ L; omega)⟩, Nat.le_of_ble_eq_true rfl, Nat.le_of_ble_eq_true rfl⟩ rfl rfl (Nat.le_of_ble_eq_true rfl) dX5_readPart_131) w (fun H locs w => ?_)
        obtain ⟨g50, h⟩ := cbi h
        obtain ⟨rfl, rfl⟩ := reti h
        exact m_rz X w hr (nb01 g50) hlocks dX5_readPart_134
      · replace h := ifF h c46
        refine lv_aload_n hx hb dX5_readPart_120 rfl (lv_at hl 0 rfl) ?_
        refine lv_iconst (v := 1) hx hb dX5_readPart_121 (by decide) ?_
        refine lv_iload_n hx hb dX5_readPart_122 rfl (lv_at hl 1 rfl) ?_
        obtain ⟨r51, V53, q52, h⟩ := obi h
        refine m_ci (m_rV (As := [.int (1 : Int32), .int v2]) (rest := []) X w hl mi_X5_put ml_X5_117 o (shn hs 0 rfl) (shk hs 0 rfl : S.2.1 o = 5) rfl (c_X5_put l D cy ad A (KX A aK aV) C0 N S V45 o hs (1 : Int32) v2 r51 V53 q52) ⟨⟨rfl, rfl, (by show 0 + 1 ≤ F; omega), (by show 8 + (4 + 11) + 0 ≤ L; omega)⟩, Nat.le_of_ble_eq_true rfl, Nat.le_of_ble_eq_true rfl⟩ rfl rfl (Nat.le_of_ble_eq_true rfl) dX5_readPart_123) w (fun H locs w => ?_)
        refine lv_pop hx hb dX5_readPart_126 rfl ?_
        refine lv_iconst (v := 1) hx hb dX5_readPart_127 (by decide) ?_
        obtain ⟨rfl, rfl⟩ := reti h
        exact m_rz X w hr rfl hlocks dX5_readPart_128
    · replace h := ifF h c41
      have g := B96 V  h
      rw [hG] at g
      exact g H locs ls w (lv_sub hl [0] rfl)
  have B73 : ∀ (V : Vt) (v2 : Int32) (s0 : Nat), f_X5_readPart_73 N S KR o V v2 s0 = some (r, V') → G 73 V [(0, .ref (ad o)), (2, .int v2)] [.ref (aK s0), .ref (ad o)] := by
    intro V v2 s0 h
    rw [hG]
    intro H locs ls w hl
    rw [f_X5_readPart_73] at h
    obtain ⟨g9, h⟩ := cgi h
    have hs_s0 : s0 < 20 := Nat.le_of_ble_eq_true g9
    obtain ⟨r38, q39, h⟩ := ob1i h
    refine m_ci (m_rV (As := [.ref (aK s0)]) (rest := []) X w hl mi_X5_wordIn ml_X5_86 o (shn hs 0 rfl) (shk hs 0 rfl : S.2.1 o = 5) rfl (c_X5_wordIn l D cy ad A aK aV C0 N S V o hs s0 hs_s0 r38 q39) ⟨⟨rfl, rfl, (by show 4 + 1 ≤ F; omega), (by show 8 + (6 + 11) + 85 ≤ L; omega)⟩, Nat.le_of_ble_eq_true rfl, Nat.le_of_ble_eq_true rfl⟩ rfl rfl (Nat.le_of_ble_eq_true rfl) dX5_readPart_73) w (fun H locs w => ?_)
    refine lv_istore_n (lv' := [(3, .int r38), (0, .ref (ad o)), (2, .int v2)]) hx hb dX5_readPart_76 rfl hl (by decide) rfl (fun ls hl => ?_)
    refine lv_iload_n hx hb dX5_readPart_77 rfl (lv_at hl 2 rfl) ?_
    refine lv_iconst (v := (-1)) hx hb dX5_readPart_78 (by decide) ?_
    refine lv_icmp_ne (tgt := 87) hx hb dX5_readPart_79 (by decide) (fun c40 => ?_) (fun c40 => ?_)
    · replace h := ifF h c40
      have g := B87 V v2 r38 h
      rw [hG] at g
      exact g H locs ls w (lv_sub hl [1, 2, 0] rfl)
    · replace h := ifT h c40
      refine lv_iload_n hx hb dX5_readPart_82 rfl (lv_at hl 0 rfl) ?_
      refine lv_iconst (v := (-1)) hx hb dX5_readPart_83 (by decide) ?_
      refine lv_icmp_eq (tgt := 96) hx hb dX5_readPart_84 (by decide) (fun c58 => ?_) (fun c58 => ?_)
      · replace h := ifT h c58
        have g := B96 V  h
        rw [hG] at g
        exact g H locs ls w (lv_sub hl [1] rfl)
      · replace h := ifF h c58
        have g := B87 V v2 r38 h
        rw [hG] at g
        exact g H locs ls w (lv_sub hl [1, 2, 0] rfl)
  rw [f_X5_readPart] at h
  refine lv_aload_n hx hb dX5_readPart_0 rfl (lv_at hl 0 rfl) ?_
  refine va_ldcS hx hb hown (ks_1 hKc) dX5_readPart_1 ?_
  obtain ⟨r32, q33, h⟩ := ob1i h
  refine m_ci (m_rV (As := [.ref (aK 1)]) (rest := []) X w hl mi_X5_wordIn ml_X5_86 o (shn hs 0 rfl) (shk hs 0 rfl : S.2.1 o = 5) rfl (c_X5_wordIn l D cy ad A aK aV C0 N S V o hs 1 (Nat.le_of_ble_eq_true rfl) r32 q33) ⟨⟨rfl, rfl, (by show 4 + 1 ≤ F; omega), (by show 8 + (6 + 11) + 85 ≤ L; omega)⟩, Nat.le_of_ble_eq_true rfl, Nat.le_of_ble_eq_true rfl⟩ rfl rfl (Nat.le_of_ble_eq_true rfl) dX5_readPart_3) w (fun H locs w => ?_)
  refine lv_iconst (v := (-1)) hx hb dX5_readPart_6 (by decide) ?_
  refine lv_icmp_eq (tgt := 50) hx hb dX5_readPart_7 (by decide) (fun c34 => ?_) (fun c34 => ?_)
  · replace h := ifT h c34
    refine lv_aload_n hx hb dX5_readPart_50 rfl (lv_at hl 0 rfl) ?_
    refine lv_sipush (v := 1000) hx hb dX5_readPart_51 (by decide) ?_
    obtain ⟨r35, q36, h⟩ := ob1i h
    refine m_ci (m_rV (As := [.int (1000 : Int32)]) (rest := []) X w hl mi_X5_numberTo ml_X5_123 o (shn hs 0 rfl) (shk hs 0 rfl : S.2.1 o = 5) rfl (c_X5_numberTo l D cy ad A (KX A aK aV) C0 N S V o hs (1000 : Int32) r35 q36) ⟨⟨rfl, rfl, (by show 1 + 1 ≤ F; omega), (by show 8 + (4 + 11) + 40 ≤ L; omega)⟩, Nat.le_of_ble_eq_true rfl, Nat.le_of_ble_eq_true rfl⟩ rfl rfl (Nat.le_of_ble_eq_true rfl) dX5_readPart_54) w (fun H locs w => ?_)
    refine lv_istore_n (lv' := [(2, .int r35), (0, .ref (ad o)), (1, .int a1)]) hx hb dX5_readPart_57 rfl hl (by decide) rfl (fun ls hl => ?_)
    refine lv_aload_n hx hb dX5_readPart_58 rfl (lv_at hl 1 rfl) ?_
    refine lv_aload_n hx hb dX5_readPart_59 rfl (lv_at hl 1 rfl) ?_
    refine m_get X w o (shn hs 0 rfl) (shk hs 0 rfl : S.2.1 o = 5) ci5 4 (by decide) (fvI (shk hs 0 rfl : S.2.1 o = 5) rfl) rfl fl_X5_34 dX5_readPart_60 ?_
    refine lv_if_eq (tgt := 71) hx hb dX5_readPart_63 (by decide) (fun c37 => ?_) (fun c37 => ?_)
    · replace h := ifT h c37
      refine va_ldcS hx hb hown (ks_4 hKc) dX5_readPart_71 ?_
      have g := B73 V r35 4 h
      rw [hG] at g
      exact g H locs ls w (lv_sub hl [1, 0] rfl)
    · replace h := ifF h c37
      refine va_ldcS hx hb hown (ks_3 hKc) dX5_readPart_66 ?_
      refine lv_goto (tgt := 73) hx hb dX5_readPart_68 (by decide) ?_
      have g := B73 V r35 3 h
      rw [hG] at g
      exact g H locs ls w (lv_sub hl [1, 0] rfl)
  · replace h := ifF h c34
    refine lv_iload_n hx hb dX5_readPart_10 rfl (lv_at hl 1 rfl) ?_
    refine lv_bipush (v := 8) hx hb dX5_readPart_11 (by decide) ?_
    refine lv_icmp_lt (tgt := 21) hx hb dX5_readPart_13 (by decide) (fun c59 => ?_) (fun c59 => ?_)
    · replace h := ifT h c59
      refine lv_aload_n hx hb dX5_readPart_21 rfl (lv_at hl 0 rfl) ?_
      obtain ⟨V62, q61, h⟩ := obvi h
      refine m_cv (m_rV (As := []) (rest := []) X w hl mi_X5_move ml_X5_53 o (shn hs 0 rfl) (shk hs 0 rfl : S.2.1 o = 5) rfl (c_X5_move l D cy ad A (KX A aK aV) C0 N S V o hs V62 q61) ⟨⟨rfl, rfl, (by show 0 + 1 ≤ F; omega), (by show 8 + (2 + 11) + 0 ≤ L; omega)⟩, Nat.le_of_ble_eq_true rfl, Nat.le_of_ble_eq_true rfl⟩ rfl rfl (Nat.le_of_ble_eq_true rfl) dX5_readPart_22) w (fun H locs w => ?_)
      refine lv_aload_n hx hb dX5_readPart_25 rfl (lv_at hl 0 rfl) ?_
      refine lv_iload_n hx hb dX5_readPart_26 rfl (lv_at hl 1 rfl) ?_
      refine lv_iconst (v := 1) hx hb dX5_readPart_27 (by decide) ?_
      refine lv_iadd hx hb dX5_readPart_28 ?_
      obtain ⟨r63, V65, q64, h⟩ := obi h
      refine m_ci (m_rV (As := [.int (a1 + (1 : Int32))]) (rest := []) X w hl mi_X5_readSum ml_X5_112 o (shn hs 0 rfl) (shk hs 0 rfl : S.2.1 o = 5) rfl (hKR.1 V62 o hs (a1 + (1 : Int32)) r63 V65 q64) ⟨⟨rfl, rfl, hF, (by show 8 + (5 + 11) + Lk ≤ L; omega)⟩, Nat.le_of_ble_eq_true rfl, Nat.le_of_ble_eq_true rfl⟩ rfl rfl (Nat.le_of_ble_eq_true rfl) dX5_readPart_29) w (fun H locs w => ?_)
      refine lv_if_eq (tgt := 48) hx hb dX5_readPart_32 (by decide) (fun c66 => ?_) (fun c66 => ?_)
      · replace h := ifT h c66
        refine lv_iconst (v := 0) hx hb dX5_readPart_48 (by decide) ?_
        obtain ⟨rfl, rfl⟩ := reti h
        exact m_rz X w hr rfl hlocks dX5_readPart_49
      · replace h := ifF h c66
        refine lv_aload_n hx hb dX5_readPart_35 rfl (lv_at hl 0 rfl) ?_
        refine va_ldcS hx hb hown (ks_2 hKc) dX5_readPart_36 ?_
        obtain ⟨r67, V69, q68, h⟩ := obi h
        refine m_ci (m_rV (As := [.ref (aK 2)]) (rest := []) X w hl mi_X5_readSign ml_X5_77 o (shn hs 0 rfl) (shk hs 0 rfl : S.2.1 o = 5) rfl (c_X5_readSign l D cy ad A aK aV C0 N S V65 o hs 2 (Nat.le_of_ble_eq_true rfl) r67 V69 q68) ⟨⟨rfl, rfl, (by show 5 + 1 ≤ F; omega), (by show 8 + (2 + 11) + 110 ≤ L; omega)⟩, Nat.le_of_ble_eq_true rfl, Nat.le_of_ble_eq_true rfl⟩ rfl rfl (Nat.le_of_ble_eq_true rfl) dX5_readPart_38) w (fun H locs w => ?_)
        refine lv_if_eq (tgt := 48) hx hb dX5_readPart_41 (by decide) (fun c70 => ?_) (fun c70 => ?_)
        · replace h := ifT h c70
          refine lv_iconst (v := 0) hx hb dX5_readPart_48 (by decide) ?_
          obtain ⟨rfl, rfl⟩ := reti h
          exact m_rz X w hr rfl hlocks dX5_readPart_49
        · replace h := ifF h c70
          refine lv_iconst (v := 1) hx hb dX5_readPart_44 (by decide) ?_
          refine lv_goto (tgt := 49) hx hb dX5_readPart_45 (by decide) ?_
          obtain ⟨rfl, rfl⟩ := reti h
          exact m_rz X w hr rfl hlocks dX5_readPart_49
    · replace h := ifF h c59
      refine lv_aload_n hx hb dX5_readPart_16 rfl (lv_at hl 0 rfl) ?_
      obtain ⟨r71, V73, q72, h⟩ := obi h
      refine m_ci (m_rV (As := []) (rest := []) X w hl mi_X5_fails ml_X5_81 o (shn hs 0 rfl) (shk hs 0 rfl : S.2.1 o = 5) rfl (c_X5_fails l D cy ad A (KX A aK aV) C0 N S V o hs r71 V73 q72) ⟨⟨rfl, rfl, (by show 0 + 1 ≤ F; omega), (by show 8 + (1 + 11) + 0 ≤ L; omega)⟩, Nat.le_of_ble_eq_true rfl, Nat.le_of_ble_eq_true rfl⟩ rfl rfl (Nat.le_of_ble_eq_true rfl) dX5_readPart_17) w (fun H locs w => ?_)
      obtain ⟨g74, h⟩ := cbi h
      obtain ⟨rfl, rfl⟩ := reti h
      exact m_rz X w hr (nb01 g74) hlocks dX5_readPart_20
def g_X5_readSum (N : Nat) (S : St) : Nat → Nat → Vt → Nat → Int32 → Option (Int32 × Vt)
  | 0, _, _, _, _ => none
  | d + 1, t, V, o, a => if t = 0 then f_X5_readSum N S (g_X5_readSum N S d) V o a else if t = 1 then f_X5_readTerm N S (g_X5_readSum N S d) V o a else f_X5_readPart N S (g_X5_readSum N S d) V o a
theorem cg_X5_readSum (l : Launch) (D : va_G) (cy : Nat → ClassId) (ad : Nat → Nat) (A : Nat → Prop) (aK aV : Nat → Nat) (C0 : Cx ad A (KX A aK aV)) (N : Nat) (S : St) : ∀ d : Nat, RH_X5_readSum l D cy ad A aK aV S (g_X5_readSum N S d) (6 + d) (131 + 60 * d) := by
  intro d
  induction d with
  | zero => exact ⟨(fun V o hs a1 r V' h => by rw [g_X5_readSum] at h; cases h), (fun V o hs a1 r V' h => by rw [g_X5_readSum] at h; cases h), (fun V o hs a1 r V' h => by rw [g_X5_readSum] at h; cases h)⟩
  | succ d ih =>
    exact ⟨(fun V o hs a1 r V' h => c_X5_readSum l D cy ad A aK aV C0 N S (g_X5_readSum N S d) (6 + d) (131 + 60 * d) (6 + (d + 1)) (131 + 60 * (d + 1)) (by omega) (by omega) (by omega) (by omega) ih V o hs a1 r V' (by rw [g_X5_readSum] at h; exact (ifT h rfl))), (fun V o hs a1 r V' h => c_X5_readTerm l D cy ad A aK aV C0 N S (g_X5_readSum N S d) (6 + d) (131 + 60 * d) (6 + (d + 1)) (131 + 60 * (d + 1)) (by omega) (by omega) (by omega) (by omega) ih V o hs a1 r V' (by rw [g_X5_readSum] at h; exact (ifT (ifF h (by decide)) rfl))), (fun V o hs a1 r V' h => c_X5_readPart l D cy ad A aK aV C0 N S (g_X5_readSum N S d) (6 + d) (131 + 60 * d) (6 + (d + 1)) (131 + 60 * (d + 1)) (by omega) (by omega) (by omega) (by omega) ih V o hs a1 r V' (by rw [g_X5_readSum] at h; exact (ifF (ifF h (by decide)) (by decide))))⟩
