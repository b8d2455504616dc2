def f_J0_charAt_5068e (N : Nat) (o : Nat) (a1 : Int32) : Option Int32 := ob1 (f_J0_isLatin1_aae02 N o) (fun r5 => if r5 = 0 then none else ob1 (f_J1_charAt_3b067 N o a1) (fun r8 => cch r8 (some r8)))
set_option maxHeartbeats 4000000 in
set_option maxRecDepth 100000 in
theorem c_J0_charAt_5068e (l : Launch) (D : va_G) (cy : Nat → ClassId) (ad : Nat → Nat) (A : Nat → Prop) (aK aV : Nat → Nat) (C0 : Cx ad A (KX A aK aV)) (N : Nat) (S : St) (V : Vt) (o : Nat) (hs_o : o < 20) (a1 : Int32) (r : Int32) (h : f_J0_charAt_5068e N o a1 = some r) : Met l yJ0_charAt_5068e (mw yJ0_charAt_5068e cJ0_charAt_5068e 2 (some .char)) { frames := 3, cells := 0, slots := 0, locals := 64 } (PreM D cy ad (KX A aK aV) S V [.ref (aK o), .int a1]) (QI D cy ad A r S V) 0 0 A := by
  refine ct_goFK C0 (own := RJ0) rfl (by decide) rfl ?_
  intro p e s m below meth c ls H locs hKc X hr hlocks hnm hl w
  have hx := X.1.1
  have hb := X.1.2.1
  have hown := X.2.1
  have hts := X.2.2.1
  have hl : lv_has ls 2 [(0, .ref (aK o)), (1, .int a1)] := hl
  rw [f_J0_charAt_5068e] at h
  refine lv_aload_n hx hb dJ0_charAt_5068e_0 rfl (lv_at hl 0 rfl) ?_
  obtain ⟨r5, q6, h⟩ := ob1i h
  refine m_ci (m_rZ (As := []) (rest := []) X hKc w hl mi_J0_isLatin1_aae02 rfl ml_J0_492 o hs_o (c_J0_isLatin1_aae02 l D cy ad A aK aV C0 N S V o hs_o r5 q6) ⟨⟨rfl, rfl, Nat.le_of_ble_eq_true rfl, Nat.le_of_ble_eq_true rfl⟩, Nat.le_of_ble_eq_true rfl, Nat.le_of_ble_eq_true rfl⟩ rfl rfl (Nat.le_of_ble_eq_true rfl) dJ0_charAt_5068e_1) w (fun H locs w => ?_)
  refine lv_if_eq (tgt := 16) hx hb dJ0_charAt_5068e_4 (by decide) (fun c7 => ?_) (fun c7 => ?_)
  · replace h := ifT h c7
    refine lv_aload_n hx hb dJ0_charAt_5068e_16 rfl (lv_at hl 0 rfl) ?_
    refine vk_getf hx hb (hKc.1.1 o hs_o).2.2.1 w.2 hown (hts _ fl_J0_9) (fun _ h9 => h9) dJ0_charAt_5068e_17 ?_
    refine lv_iload_n hx hb dJ0_charAt_5068e_20 rfl (lv_at hl 1 rfl) ?_
    cases h
  · replace h := ifF h c7
    refine lv_aload_n hx hb dJ0_charAt_5068e_7 rfl (lv_at hl 0 rfl) ?_
    refine vk_getf hx hb (hKc.1.1 o hs_o).2.2.1 w.2 hown (hts _ fl_J0_9) (fun _ h9 => h9) dJ0_charAt_5068e_8 ?_
    refine lv_iload_n hx hb dJ0_charAt_5068e_11 rfl (lv_at hl 1 rfl) ?_
    obtain ⟨r8, q9, h⟩ := ob1i h
    refine m_ci (m_rS (As := [.ref (aV o), .int a1]) (rest := []) X w hl mi_J1_charAt_3b067 ml_J0_495 (c_J1_charAt_3b067 l D cy ad A aK aV C0 N S V o hs_o a1 r8 q9) ⟨⟨rfl, rfl, Nat.le_of_ble_eq_true rfl, Nat.le_of_ble_eq_true rfl⟩, Nat.le_of_ble_eq_true rfl, Nat.le_of_ble_eq_true rfl⟩ rfl rfl (Nat.le_of_ble_eq_true rfl) dJ0_charAt_5068e_12) w (fun H locs w => ?_)
    obtain ⟨g10, h⟩ := cchi h
    obtain rfl := Option.some.inj h
    exact m_rz X w hr g10 hlocks dJ0_charAt_5068e_15
