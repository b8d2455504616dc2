def f_J3_checkIndex_8e157_9 (N : Nat) (v0 : Int32) (v1 : Int32) : Option Int32 := none
def f_J3_checkIndex_8e157 (N : Nat) (a1 : Int32) (a2 : Int32) : Option Int32 := if a1 < 0 then f_J3_checkIndex_8e157_9 N a1 a2 else if a1 < a2 then some a1 else f_J3_checkIndex_8e157_9 N a1 a2
set_option maxHeartbeats 4000000 in
set_option maxRecDepth 100000 in
theorem c_J3_checkIndex_8e157 (l : Launch) (D : va_G) (cy : Nat → ClassId) (ad : Nat → Nat) (A : Nat → Prop) (aK aV : Nat → Nat) (C0 : Cx ad A (KX A aK aV)) (N : Nat) (S : St) (V : Vt) (a1 : Int32) (a2 : Int32) (a3 : Value) (hs_a3 : a3 = .null ∨ ∃ t, a3 = .ref t) (r : Int32) (h : f_J3_checkIndex_8e157 N a1 a2 = some r) : Met l yJ3_checkIndex_8e157 (mw yJ3_checkIndex_8e157 cJ3_checkIndex_8e157 3 (some .int)) { frames := 0, cells := 0, slots := 0, locals := 0 } (PreM D cy ad (KX A aK aV) S V [.int a1, .int a2, a3]) (QI D cy ad A r S V) 0 0 A := by
  rcases hs_a3 with rfl | ⟨t9, rfl⟩
  · refine ct_goFK C0 (own := RJ3) rfl (by decide) rfl ?_
    intro p e s m below meth c ls H locs hKc X hr hlocks hnm hl w
    have hx := X.1.1
    have hb := X.1.2.1
    have hown := X.2.1
    have hts := X.2.2.1
    have hl : lv_has ls 3 [(0, .int a1), (1, .int a2), (2, .null)] := hl
    obtain ⟨G, hG⟩ : ∃ G : Nat → Vt → List (Nat × Value) → List Value → Prop, G = fun pc V lv st => ∀ (H : Heap) (locs : List Loc) (ls : Array Slot), Wd D cy ad A s.heap S V H locs → lv_has ls 3 lv → W p l e { frames := 0, cells := 0, slots := 0, locals := 0 } s m ([.int a1, .int a2, .null] : List Value).toArray below meth c H locs 0 0 (MQ below (QI D cy ad A r S V) ([.int a1, .int a2, .null] : List Value).toArray s 0 0 A) (F0 m pc ls st) := ⟨_, rfl⟩
    have B9 : ∀ (v0 : Int32) (v1 : Int32), f_J3_checkIndex_8e157_9 N v0 v1 = some r → G 9 V [(0, .int v0), (1, .int v1), (2, .null)] [] := by
      intro v0 v1 h
      rw [hG]
      intro H locs ls w hl
      rw [f_J3_checkIndex_8e157_9] at h
      cases h
    rw [f_J3_checkIndex_8e157] at h
    refine lv_iload_n hx hb dJ3_checkIndex_8e157_0 rfl (lv_at hl 0 rfl) ?_
    refine lv_if_lt (tgt := 9) hx hb dJ3_checkIndex_8e157_1 (by decide) (fun c1 => ?_) (fun c1 => ?_)
    · replace h := ifT h c1
      have g := B9 a1 a2 h
      rw [hG] at g
      exact g H locs ls w (lv_sub hl [0, 1, 2] rfl)
    · replace h := ifF h c1
      refine lv_iload_n hx hb dJ3_checkIndex_8e157_4 rfl (lv_at hl 0 rfl) ?_
      refine lv_iload_n hx hb dJ3_checkIndex_8e157_5 rfl (lv_at hl 1 rfl) ?_
      refine lv_icmp_lt (tgt := 16) hx hb dJ3_checkIndex_8e157_6 (by decide) (fun c2 => ?_) (fun c2 => ?_)
      · replace h := ifT h c2
        refine lv_iload_n hx hb dJ3_checkIndex_8e157_16 rfl (lv_at hl 0 rfl) ?_
        obtain rfl := Option.some.inj h
        exact m_ri X w hr hlocks dJ3_checkIndex_8e157_17
      · replace h := ifF h c2
        have g := B9 a1 a2 h
        rw [hG] at g
        exact g H locs ls w (lv_sub hl [0, 1, 2] rfl)
  · refine ct_goFK C0 (own := RJ3) rfl (by decide) rfl ?_
    intro p e s m below meth c ls H locs hKc X hr hlocks hnm hl w
    have hx := X.1.1
    have hb := X.1.2.1
    have hown := X.2.1
    have hts := X.2.2.1
    have hl : lv_has ls 3 [(0, .int a1), (1, .int a2), (2, .ref t9)] := hl
    obtain ⟨G, hG⟩ : ∃ G : Nat → Vt → List (Nat × Value) → List Value → Prop, G = fun pc V lv st => ∀ (H : Heap) (locs : List Loc) (ls : Array Slot), Wd D cy ad A s.heap S V H locs → lv_has ls 3 lv → W p l e { frames := 0, cells := 0, slots := 0, locals := 0 } s m ([.int a1, .int a2, .ref t9] : List Value).toArray below meth c H locs 0 0 (MQ below (QI D cy ad A r S V) ([.int a1, .int a2, .ref t9] : List Value).toArray s 0 0 A) (F0 m pc ls st) := ⟨_, rfl⟩
    have B9 : ∀ (v0 : Int32) (v1 : Int32), f_J3_checkIndex_8e157_9 N v0 v1 = some r → G 9 V [(0, .int v0), (1, .int v1), (2, .ref t9)] [] := by
      intro v0 v1 h
      rw [hG]
      intro H locs ls w hl
      rw [f_J3_checkIndex_8e157_9] at h
      cases h
    rw [f_J3_checkIndex_8e157] at h
    refine lv_iload_n hx hb dJ3_checkIndex_8e157_0 rfl (lv_at hl 0 rfl) ?_
    refine lv_if_lt (tgt := 9) hx hb dJ3_checkIndex_8e157_1 (by decide) (fun c1 => ?_) (fun c1 => ?_)
    · replace h := ifT h c1
      have g := B9 a1 a2 h
      rw [hG] at g
      exact g H locs ls w (lv_sub hl [0, 1, 2] rfl)
    · replace h := ifF h c1
      refine lv_iload_n hx hb dJ3_checkIndex_8e157_4 rfl (lv_at hl 0 rfl) ?_
      refine lv_iload_n hx hb dJ3_checkIndex_8e157_5 rfl (lv_at hl 1 rfl) ?_
      refine lv_icmp_lt (tgt := 16) hx hb dJ3_checkIndex_8e157_6 (by decide) (fun c2 => ?_) (fun c2 => ?_)
      · replace h := ifT h c2
        refine lv_iload_n hx hb dJ3_checkIndex_8e157_16 rfl (lv_at hl 0 rfl) ?_
        obtain rfl := Option.some.inj h
        exact m_ri X w hr hlocks dJ3_checkIndex_8e157_17
      · replace h := ifF h c2
        have g := B9 a1 a2 h
        rw [hG] at g
        exact g H locs ls w (lv_sub hl [0, 1, 2] rfl)
def f_J0_checkIndex_df160 (N : Nat) (a1 : Int32) (a2 : Int32) : Option Unit := ob1 (f_J3_checkIndex_8e157 N a1 a2) (fun r5 => some ())
set_option maxHeartbeats 4000000 in
set_option maxRecDepth 100000 in
theorem c_J0_checkIndex_df160 (l : Launch) (D : va_G) (cy : Nat → ClassId) (ad : Nat → Nat) (A : Nat → Prop) (aK aV : Nat → Nat) (C0 : Cx ad A (KX A aK aV)) (N : Nat) (S : St) (V : Vt) (a1 : Int32) (a2 : Int32) (h : f_J0_checkIndex_df160 N a1 a2 = some ()) : Met l yJ0_checkIndex_df160 (mw yJ0_checkIndex_df160 cJ0_checkIndex_df160 2 none) { frames := 1, cells := 0, slots := 0, locals := 22 } (PreM D cy ad (KX A aK aV) S V [.int a1, .int a2]) (QV D cy ad A S V) 0 0 A := by
  refine ct_goFK C0 (own := RJ0) rfl (by decide) rfl ?_
  intro p e s m below meth c ls H locs hKc X hr hlocks hnm hl w
  have hx := X.1.1
  have hb := X.1.2.1
  have hown := X.2.1
  have hts := X.2.2.1
  have hl : lv_has ls 2 [(0, .int a1), (1, .int a2)] := hl
  rw [f_J0_checkIndex_df160] at h
  refine lv_iload_n hx hb dJ0_checkIndex_df160_0 rfl (lv_at hl 0 rfl) ?_
  refine lv_iload_n hx hb dJ0_checkIndex_df160_1 rfl (lv_at hl 1 rfl) ?_
  obtain ⟨u4, hs_u4, hZu4⟩ := zq_any hKc.2.2.2.1
  refine va_gets hx hb hZu4 w.2 hown (hts _ fl_J0_1053) (fun _ h9 => h9) dJ0_checkIndex_df160_2 ?_
  obtain ⟨r5, q6, h⟩ := ob1i h
  refine m_ci (m_rS (As := [.int a1, .int a2, u4]) (rest := []) X w hl mi_J3_checkIndex_8e157 ml_J0_1059 (c_J3_checkIndex_8e157 l D cy ad A aK aV C0 N S V a1 a2 u4 hs_u4 r5 q6) ⟨⟨rfl, rfl, Nat.le_of_ble_eq_true rfl, Nat.le_of_ble_eq_true rfl⟩, Nat.le_of_ble_eq_true rfl, Nat.le_of_ble_eq_true rfl⟩ rfl rfl (Nat.le_of_ble_eq_true rfl) dJ0_checkIndex_df160_5) w (fun H locs w => ?_)
  refine lv_pop hx hb dJ0_checkIndex_df160_8 rfl ?_
  exact m_rv X w hr hlocks dJ0_checkIndex_df160_9
def f_J0_coder_7d493 (N : Nat) (o : Nat) : Option Int32 := if (1 : Int32) = 0 then some (1 : Int32) else some (0 : Int32)
set_option maxHeartbeats 4000000 in
set_option maxRecDepth 100000 in
theorem c_J0_coder_7d493 (l : Launch) (D : va_G) (cy : Nat → ClassId) (ad : Nat → Nat) (A : Nat → Prop) (aK aV : Nat → Nat) (C0 : Cx ad A (KX A aK aV)) (N : Nat) (S : St) (V : Vt) (o : Nat) (hs_o : o < 20) (r : Int32) (h : f_J0_coder_7d493 N o = some r) : Met l yJ0_coder_7d493 (mw yJ0_coder_7d493 cJ0_coder_7d493 1 (some .byte)) { frames := 0, cells := 0, slots := 0, locals := 0 } (PreM D cy ad (KX A aK aV) S V [.ref (aK o)]) (QI D cy ad A r S V) 0 0 A := by
  refine ct_goFK C0 (own := RJ0) rfl (by decide) rfl ?_
  intro p e s m below meth c ls H locs hKc X hr hlocks hnm hl w
  have hx := X.1.1
  have hb := X.1.2.1
  have hown := X.2.1
  have hts := X.2.2.1
  have hl : lv_has ls 1 [(0, .ref (aK o))] := hl
  rw [f_J0_coder_7d493] at h
  refine va_gets hx hb hKc.2.2.1 w.2 hown (hts _ fl_J0_38) (fun _ h9 => h9) dJ0_coder_7d493_0 ?_
  refine lv_if_eq (tgt := 13) hx hb dJ0_coder_7d493_3 (by decide) (fun c1 => ?_) (fun c1 => ?_)
  · replace h := ifT h c1
    refine lv_iconst (v := 1) hx hb dJ0_coder_7d493_13 (by decide) ?_
    obtain rfl := Option.some.inj h
    exact m_rz X w hr rfl hlocks dJ0_coder_7d493_14
  · replace h := ifF h c1
    refine lv_aload_n hx hb dJ0_coder_7d493_6 rfl (lv_at hl 0 rfl) ?_
    refine vk_getf hx hb (hKc.1.1 o hs_o).2.1 w.2 hown (hts _ fl_J0_15) (fun _ h9 => h9) dJ0_coder_7d493_7 ?_
    refine lv_goto (tgt := 14) hx hb dJ0_coder_7d493_10 (by decide) ?_
    obtain rfl := Option.some.inj h
    exact m_rz X w hr rfl hlocks dJ0_coder_7d493_14
def f_J0_isLatin1_aae02 (N : Nat) (o : Nat) : Option Int32 := if (1 : Int32) = 0 then some (0 : Int32) else if (0 : Int32) = 0 then some (1 : Int32) else some (0 : Int32)
set_option maxHeartbeats 4000000 in
set_option maxRecDepth 100000 in
theorem c_J0_isLatin1_aae02 (l : Launch) (D : va_G) (cy : Nat → ClassId) (ad : Nat → Nat) (A : Nat → Prop) (aK aV : Nat → Nat) (C0 : Cx ad A (KX A aK aV)) (N : Nat) (S : St) (V : Vt) (o : Nat) (hs_o : o < 20) (r : Int32) (h : f_J0_isLatin1_aae02 N o = some r) : Met l yJ0_isLatin1_aae02 (mw yJ0_isLatin1_aae02 cJ0_isLatin1_aae02 1 (some .boolean)) { frames := 0, cells := 0, slots := 0, locals := 0 } (PreM D cy ad (KX A aK aV) S V [.ref (aK o)]) (QI D cy ad A r S V) 0 0 A := by
  refine ct_goFK C0 (own := RJ0) rfl (by decide) rfl ?_
  intro p e s m below meth c ls H locs hKc X hr hlocks hnm hl w
  have hx := X.1.1
  have hb := X.1.2.1
  have hown := X.2.1
  have hts := X.2.2.1
  have hl : lv_has ls 1 [(0, .ref (aK o))] := hl
  rw [f_J0_isLatin1_aae02] at h
  refine va_gets hx hb hKc.2.2.1 w.2 hown (hts _ fl_J0_38) (fun _ h9 => h9) dJ0_isLatin1_aae02_0 ?_
  refine lv_if_eq (tgt := 17) hx hb dJ0_isLatin1_aae02_3 (by decide) (fun c1 => ?_) (fun c1 => ?_)
  · replace h := ifT h c1
    refine lv_iconst (v := 0) hx hb dJ0_isLatin1_aae02_17 (by decide) ?_
    obtain rfl := Option.some.inj h
    exact m_rz X w hr rfl hlocks dJ0_isLatin1_aae02_18
  · replace h := ifF h c1
    refine lv_aload_n hx hb dJ0_isLatin1_aae02_6 rfl (lv_at hl 0 rfl) ?_
    refine vk_getf hx hb (hKc.1.1 o hs_o).2.1 w.2 hown (hts _ fl_J0_15) (fun _ h9 => h9) dJ0_isLatin1_aae02_7 ?_
    refine lv_if_ne (tgt := 17) hx hb dJ0_isLatin1_aae02_10 (by decide) (fun c2 => ?_) (fun c2 => ?_)
    · replace h := ifF h c2
      refine lv_iconst (v := 0) hx hb dJ0_isLatin1_aae02_17 (by decide) ?_
      obtain rfl := Option.some.inj h
      exact m_rz X w hr rfl hlocks dJ0_isLatin1_aae02_18
    · replace h := ifT h c2
      refine lv_iconst (v := 1) hx hb dJ0_isLatin1_aae02_13 (by decide) ?_
      refine lv_goto (tgt := 18) hx hb dJ0_isLatin1_aae02_14 (by decide) ?_
      obtain rfl := Option.some.inj h
      exact m_rz X w hr rfl hlocks dJ0_isLatin1_aae02_18
def f_J0_length_8abf5 (N : Nat) (o : Nat) : Option Int32 := ob1 (f_J0_coder_7d493 N o) (fun r3 => some ((Int32.ofNat (kLen.getD o 0)) >>> (r3 &&& 31)))
set_option maxHeartbeats 4000000 in
set_option maxRecDepth 100000 in
theorem c_J0_length_8abf5 (l : Launch) (D : va_G) (cy : Nat → ClassId) (ad : Nat → Nat) (A : Nat → Prop) (aK aV : Nat → Nat) (C0 : Cx ad A (KX A aK aV)) (N : Nat) (S : St) (V : Vt) (o : Nat) (hs_o : o < 20) (r : Int32) (h : f_J0_length_8abf5 N o = some r) : Met l yJ0_length_8abf5 (mw yJ0_length_8abf5 cJ0_length_8abf5 1 (some .int)) { frames := 1, cells := 0, slots := 0, locals := 20 } (PreM D cy ad (KX A aK aV) S V [.ref (aK o)]) (QI D cy ad A r S V) 0 0 A := by
  refine ct_goFK C0 (own := RJ0) rfl (by decide) rfl ?_
  intro p e s m below meth c ls H locs hKc X hr hlocks hnm hl w
  have hx := X.1.1
  have hb := X.1.2.1
  have hown := X.2.1
  have hts := X.2.2.1
  have hl : lv_has ls 1 [(0, .ref (aK o))] := hl
  rw [f_J0_length_8abf5] at h
  refine lv_aload_n hx hb dJ0_length_8abf5_0 rfl (lv_at hl 0 rfl) ?_
  refine vk_getf hx hb (hKc.1.1 o hs_o).2.2.1 w.2 hown (hts _ fl_J0_9) (fun _ h9 => h9) dJ0_length_8abf5_1 ?_
  refine va_tlen hx hb (hKc.1.1 o hs_o).2.2.2 w.2 rfl dJ0_length_8abf5_4 ?_
  refine lv_aload_n hx hb dJ0_length_8abf5_5 rfl (lv_at hl 0 rfl) ?_
  obtain ⟨r3, q4, h⟩ := ob1i h
  refine m_ci (m_rZ (As := []) (rest := [.int (Int32.ofNat (kLen.getD o 0))]) X hKc w hl mi_J0_coder_7d493 rfl ml_J0_335 o hs_o (c_J0_coder_7d493 l D cy ad A aK aV C0 N S V o hs_o r3 q4) ⟨⟨rfl, rfl, Nat.le_of_ble_eq_true rfl, Nat.le_of_ble_eq_true rfl⟩, Nat.le_of_ble_eq_true rfl, Nat.le_of_ble_eq_true rfl⟩ rfl rfl (Nat.le_of_ble_eq_true rfl) dJ0_length_8abf5_6) w (fun H locs w => ?_)
  refine lv_ishr hx hb dJ0_length_8abf5_9 ?_
  obtain rfl := Option.some.inj h
  exact m_ri X w hr hlocks dJ0_length_8abf5_10
def f_J1_charAt_3b067 (N : Nat) (a1 : Nat) (a2 : Int32) : Option Int32 := ob1 (f_J0_checkIndex_df160 N a2 (Int32.ofNat (kLen.getD a1 0))) (fun _ => ck a2 (kLen.getD a1 0) (cch (((((kByt.getD a1 []).getD a2.toNatClampNeg 0) &&& (255 : Int32)).toUInt32 % 65536).toInt32) (some (((((kByt.getD a1 []).getD a2.toNatClampNeg 0) &&& (255 : Int32)).toUInt32 % 65536).toInt32))))
set_option maxHeartbeats 4000000 in
set_option maxRecDepth 100000 in
theorem c_J1_charAt_3b067 (l : Launch) (D : va_G) (cy : Nat → ClassId) (ad : Nat → Nat) (A : Nat → Prop) (aK aV : Nat → Nat) (C0 : Cx ad A (KX A aK aV)) (N : Nat) (S : St) (V : Vt) (a1 : Nat) (hs_a1 : a1 < 20) (a2 : Int32) (r : Int32) (h : f_J1_charAt_3b067 N a1 a2 = some r) : Met l yJ1_charAt_3b067 (mw yJ1_charAt_3b067 cJ1_charAt_3b067 2 (some .char)) { frames := 2, cells := 0, slots := 0, locals := 43 } (PreM D cy ad (KX A aK aV) S V [.ref (aV a1), .int a2]) (QI D cy ad A r S V) 0 0 A := by
  refine ct_goFK C0 (own := RJ1) rfl (by decide) rfl ?_
  intro p e s m below meth c ls H locs hKc X hr hlocks hnm hl w
  have hx := X.1.1
  have hb := X.1.2.1
  have hown := X.2.1
  have hts := X.2.2.1
  have hl : lv_has ls 2 [(0, .ref (aV a1)), (1, .int a2)] := hl
  rw [f_J1_charAt_3b067] at h
  refine lv_iload_n hx hb dJ1_charAt_3b067_0 rfl (lv_at hl 1 rfl) ?_
  refine lv_aload_n hx hb dJ1_charAt_3b067_1 rfl (lv_at hl 0 rfl) ?_
  refine va_tlen hx hb (hKc.1.1 a1 hs_a1).2.2.2 w.2 rfl dJ1_charAt_3b067_2 ?_
  obtain ⟨_, q5, h⟩ := ob1i h
  refine m_cv (m_rS (As := [.int a2, .int (Int32.ofNat (kLen.getD a1 0))]) (rest := []) X w hl mi_J0_checkIndex_df160 ml_J1_9 (c_J0_checkIndex_df160 l D cy ad A aK aV C0 N S V a2 (Int32.ofNat (kLen.getD a1 0))  q5) ⟨⟨rfl, rfl, Nat.le_of_ble_eq_true rfl, Nat.le_of_ble_eq_true rfl⟩, Nat.le_of_ble_eq_true rfl, Nat.le_of_ble_eq_true rfl⟩ rfl rfl (Nat.le_of_ble_eq_true rfl) dJ1_charAt_3b067_3) w (fun H locs w => ?_)
  refine lv_aload_n hx hb dJ1_charAt_3b067_6 rfl (lv_at hl 0 rfl) ?_
  refine lv_iload_n hx hb dJ1_charAt_3b067_7 rfl (lv_at hl 1 rfl) ?_
  obtain ⟨g6, h⟩ := cki h
  refine va_tb hx hb (hKc.1.1 a1 hs_a1).2.2.2 w.2 g6 rfl dJ1_charAt_3b067_8 ?_
  refine lv_sipush (v := 255) hx hb dJ1_charAt_3b067_9 (by decide) ?_
  refine lv_iand hx hb dJ1_charAt_3b067_12 ?_
  refine lv_i2c hx hb dJ1_charAt_3b067_13 rfl ?_
  obtain ⟨g7, h⟩ := cchi h
  obtain rfl := Option.some.inj h
  exact m_rz X w hr g7 hlocks dJ1_charAt_3b067_14
