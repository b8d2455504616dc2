def f_X5_wordIn_110 (N : Nat) (S : St) (V : Vt) (o : Nat) (a1 : Nat) (K18 : Int32 → Int32 → Int32 → Int32 → Option Int32) (v2 : Int32) (v3 : Int32) (v4 : Int32) (v5 : Int32) : Option Int32 := bd (v5 + (1 : Int32)) (fun x23 => K18 v2 v3 v4 x23)
def f_X5_wordIn_59 (N : Nat) (S : St) (V : Vt) (o : Nat) (a1 : Nat) (K18 : Int32 → Int32 → Int32 → Int32 → Option Int32) (v2 : Int32) (v3 : Int32) (v5 : Int32) : Option Int32 := bd (v3 + (1 : Int32)) (fun x22 => f_X5_wordIn_110 N S V o a1 K18 v2 x22 (0 : Int32) v5)
def f_X5_wordIn_47 (N : Nat) (S : St) (V : Vt) (o : Nat) (a1 : Nat) (K18 : Int32 → Int32 → Int32 → Int32 → Option Int32) (v2 : Int32) (v3 : Int32) (v4 : Int32) (v5 : Int32) : Option Int32 := if v4 = v2 then if v2 ≤ 0 then f_X5_wordIn_59 N S V o a1 K18 v2 v3 v5 else some v3 else f_X5_wordIn_59 N S V o a1 K18 v2 v3 v5
def f_X5_wordIn_107 (N : Nat) (S : St) (V : Vt) (o : Nat) (a1 : Nat) (K18 : Int32 → Int32 → Int32 → Int32 → Option Int32) (v2 : Int32) (v3 : Int32) (v5 : Int32) : Option Int32 := f_X5_wordIn_110 N S V o a1 K18 v2 v3 (-1 : Int32) v5
def f_X5_wordIn_18 (N : Nat) (S : St) (V : Vt) (o : Nat) (a1 : Nat) : Nat → Int32 → Int32 → Int32 → Int32 → Option Int32
  | 0, _, _, _, _ => none
  | n + 1, v2, v3, v4, v5 => ob1 (f_J0_length_8abf5 N a1) (fun r15 => if r15 < v5 then some (-1 : Int32) else ob1 (f_J0_length_8abf5 N a1) (fun r18 => if v5 = r18 then f_X5_wordIn_47 N S V o a1 (f_X5_wordIn_18 N S V o a1 n) v2 v3 v4 v5 else ob1 (f_J0_charAt_5068e N a1 v5) (fun r25 => if r25 = (32 : Int32) then f_X5_wordIn_47 N S V o a1 (f_X5_wordIn_18 N S V o a1 n) v2 v3 v4 v5 else if v4 = (-1 : Int32) then f_X5_wordIn_107 N S V o a1 (f_X5_wordIn_18 N S V o a1 n) v2 v3 v5 else if v2 ≤ v4 then f_X5_wordIn_107 N S V o a1 (f_X5_wordIn_18 N S V o a1 n) v2 v3 v5 else ob1 (f_J0_charAt_5068e N a1 v5) (fun r30 => ck ((V.1 o 6) + v4) 400 (if r30 = (V.2.1 (o + 1) ((V.1 o 6) + v4).toNatClampNeg) then bd (v4 + (1 : Int32)) (fun x34 => f_X5_wordIn_110 N S V o a1 (f_X5_wordIn_18 N S V o a1 n) v2 v3 x34 v5) else f_X5_wordIn_107 N S V o a1 (f_X5_wordIn_18 N S V o a1 n) v2 v3 v5)))))
def f_X5_wordIn (N : Nat) (S : St) (V : Vt) (o : Nat) (a1 : Nat) : Option Int32 := bd ((V.1 o 7) - (V.1 o 6)) (fun x14 => f_X5_wordIn_18 N S V o a1 N x14 (0 : Int32) (0 : Int32) (0 : Int32))
set_option maxHeartbeats 4000000 in
set_option maxRecDepth 100000 in
theorem c_X5_wordIn (l : Launch) (D : va_G) (cy : Nat → ClassId) (ad : Nat → Nat) (A : Nat → Prop) (aK aV : Nat → Nat) (C0 : Cx ad A (KX A aK aV)) (N : Nat) (S : St) (V : Vt) (o : Nat) (hs : shp S o t5) (a1 : Nat) (hs_a1 : a1 < 20) (r : Int32) (h : f_X5_wordIn N S V o a1 = some r) : Met l yX5_wordIn (mw yX5_wordIn cX5_wordIn 6 (some .int)) { frames := 4, cells := 0, slots := 0, locals := 85 } (PreM D cy ad (KX A aK aV) S V [.ref (ad o), .ref (aK a1)]) (QI D cy ad A r S V) 0 0 A := by
  refine ct_goK C0 (own := RX5) rfl (by decide) rfl ?_
  intro p e s m below meth c ls H locs hKc X hr hlocks hnm hl w
  have hx := X.1.1
  have hb := X.1.2.1
  have hown := X.2.1
  have hts := X.2.2.1
  have hl : lv_has ls 6 [(0, .ref (ad o)), (1, .ref (aK a1))] := hl
  obtain ⟨G, hG⟩ : ∃ G : Nat → Vt → List (Nat × Value) → List Value → Prop, G = fun pc V lv st => ∀ (H : Heap) (locs : List Loc) (ls : Array Slot), Wd D cy ad A s.heap S V H locs → lv_has ls 6 lv → W p l e { frames := 4, cells := 0, slots := 0, locals := 85 } s m ([.ref (ad o), .ref (aK a1)] : List Value).toArray below meth c H locs 0 0 (MQ below (QI D cy ad A r S V) ([.ref (ad o), .ref (aK a1)] : List Value).toArray s 0 0 A) (F0 m pc ls st) := ⟨_, rfl⟩
  have L18 : ∀ (n18 : Nat) (v2 : Int32) (v3 : Int32) (v4 : Int32) (v5 : Int32), f_X5_wordIn_18 N S V o a1 n18 v2 v3 v4 v5 = some r → G 18 V [(0, .ref (ad o)), (1, .ref (aK a1)), (2, .int v2), (3, .int v3), (4, .int v4), (5, .int v5)] [] := by
    intro n18
    induction n18 with
    | zero => intro v2 v3 v4 v5 h; rw [f_X5_wordIn_18] at h; cases h
    | succ n18 ih18 =>
      have B110 : ∀ (v2 : Int32) (v3 : Int32) (v4 : Int32) (v5 : Int32), f_X5_wordIn_110 N S V o a1 (f_X5_wordIn_18 N S V o a1 n18) v2 v3 v4 v5 = some r → G 110 V [(0, .ref (ad o)), (1, .ref (aK a1)), (2, .int v2), (3, .int v3), (4, .int v4), (5, .int v5)] [] := by
        intro v2 v3 v4 v5 h
        rw [hG]
        intro H locs ls w hl
        rw [f_X5_wordIn_110] at h
        obtain ⟨x23, ex23⟩ : ∃ y : Int32, y = v5 + (1 : Int32) := ⟨_, rfl⟩
        replace h := bdi h _ ex23
        refine lv_iinc (v := x23) (lv' := [(5, .int x23), (0, .ref (ad o)), (1, .ref (aK a1)), (2, .int v2), (3, .int v3), (4, .int v4)]) hx hb dX5_wordIn_110 hl (k := 5) rfl (by rw [ex23]; rfl) (by decide) rfl (fun ls hl => ?_)
        refine lv_goto (tgt := 18) hx hb dX5_wordIn_113 (by decide) ?_
        have g := ih18 v2 v3 v4 x23 h
        rw [hG] at g
        exact g H locs ls w (lv_sub hl [1, 2, 3, 4, 5, 0] rfl)
      have B59 : ∀ (v2 : Int32) (v3 : Int32) (v5 : Int32), f_X5_wordIn_59 N S V o a1 (f_X5_wordIn_18 N S V o a1 n18) v2 v3 v5 = some r → G 59 V [(0, .ref (ad o)), (1, .ref (aK a1)), (2, .int v2), (3, .int v3), (5, .int v5)] [] := by
        intro v2 v3 v5 h
        rw [hG]
        intro H locs ls w hl
        rw [f_X5_wordIn_59] at h
        obtain ⟨x22, ex22⟩ : ∃ y : Int32, y = v3 + (1 : Int32) := ⟨_, rfl⟩
        replace h := bdi h _ ex22
        refine lv_iinc (v := x22) (lv' := [(3, .int x22), (0, .ref (ad o)), (1, .ref (aK a1)), (2, .int v2), (5, .int v5)]) hx hb dX5_wordIn_59 hl (k := 3) rfl (by rw [ex22]; rfl) (by decide) rfl (fun ls hl => ?_)
        refine lv_iconst (v := 0) hx hb dX5_wordIn_62 (by decide) ?_
        refine lv_istore (lv' := [(4, .int (0 : Int32)), (3, .int x22), (0, .ref (ad o)), (1, .ref (aK a1)), (2, .int v2), (5, .int v5)]) hx hb dX5_wordIn_63 hl (by decide) rfl (fun ls hl => ?_)
        refine lv_goto (tgt := 110) hx hb dX5_wordIn_65 (by decide) ?_
        have g := B110 v2 x22 (0 : Int32) v5 h
        rw [hG] at g
        exact g H locs ls w (lv_sub hl [2, 3, 4, 1, 0, 5] rfl)
      have B47 : ∀ (v2 : Int32) (v3 : Int32) (v4 : Int32) (v5 : Int32), f_X5_wordIn_47 N S V o a1 (f_X5_wordIn_18 N S V o a1 n18) v2 v3 v4 v5 = some r → G 47 V [(0, .ref (ad o)), (1, .ref (aK a1)), (2, .int v2), (3, .int v3), (4, .int v4), (5, .int v5)] [] := by
        intro v2 v3 v4 v5 h
        rw [hG]
        intro H locs ls w hl
        rw [f_X5_wordIn_47] at h
        refine lv_iload hx hb dX5_wordIn_47 (lv_at hl 4 rfl) ?_
        refine lv_iload_n hx hb dX5_wordIn_49 rfl (lv_at hl 2 rfl) ?_
        refine lv_icmp_ne (tgt := 59) hx hb dX5_wordIn_50 (by decide) (fun c21 => ?_) (fun c21 => ?_)
        · replace h := ifF h c21
          have g := B59 v2 v3 v5 h
          rw [hG] at g
          exact g H locs ls w (lv_sub hl [0, 1, 2, 3, 5] rfl)
        · replace h := ifT h c21
          refine lv_iload_n hx hb dX5_wordIn_53 rfl (lv_at hl 2 rfl) ?_
          refine lv_if_le (tgt := 59) hx hb dX5_wordIn_54 (by decide) (fun c24 => ?_) (fun c24 => ?_)
          · replace h := ifT h c24
            have g := B59 v2 v3 v5 h
            rw [hG] at g
            exact g H locs ls w (lv_sub hl [0, 1, 2, 3, 5] rfl)
          · replace h := ifF h c24
            refine lv_iload_n hx hb dX5_wordIn_57 rfl (lv_at hl 3 rfl) ?_
            obtain rfl := Option.some.inj h
            exact m_ri X w hr hlocks dX5_wordIn_58
      have B107 : ∀ (v2 : Int32) (v3 : Int32) (v5 : Int32), f_X5_wordIn_107 N S V o a1 (f_X5_wordIn_18 N S V o a1 n18) v2 v3 v5 = some r → G 107 V [(0, .ref (ad o)), (1, .ref (aK a1)), (2, .int v2), (3, .int v3), (5, .int v5)] [] := by
        intro v2 v3 v5 h
        rw [hG]
        intro H locs ls w hl
        rw [f_X5_wordIn_107] at h
        refine lv_iconst (v := (-1)) hx hb dX5_wordIn_107 (by decide) ?_
        refine lv_istore (lv' := [(4, .int (-1 : Int32)), (0, .ref (ad o)), (1, .ref (aK a1)), (2, .int v2), (3, .int v3), (5, .int v5)]) hx hb dX5_wordIn_108 hl (by decide) rfl (fun ls hl => ?_)
        have g := B110 v2 v3 (-1 : Int32) v5 h
        rw [hG] at g
        exact g H locs ls w (lv_sub hl [1, 2, 3, 4, 0, 5] rfl)
      intro v2 v3 v4 v5 h
      rw [hG]
      intro H locs ls w hl
      rw [f_X5_wordIn_18] at h
      refine lv_iload hx hb dX5_wordIn_18 (lv_at hl 5 rfl) ?_
      refine lv_aload_n hx hb dX5_wordIn_20 rfl (lv_at hl 1 rfl) ?_
      obtain ⟨r15, q16, h⟩ := ob1i h
      refine m_ci (m_rZ (As := []) (rest := [.int v5]) X hKc w hl mi_J0_length_8abf5 rfl ml_X5_173 a1 hs_a1 (c_J0_length_8abf5 l D cy ad A aK aV C0 N S V a1 hs_a1 r15 q16) ⟨⟨rfl, rfl, Nat.le_of_ble_eq_true rfl, Nat.le_of_ble_eq_true rfl⟩, Nat.le_of_ble_eq_true rfl, Nat.le_of_ble_eq_true rfl⟩ rfl rfl (Nat.le_of_ble_eq_true rfl) dX5_wordIn_21) w (fun H locs w => ?_)
      refine lv_icmp_gt (tgt := 116) hx hb dX5_wordIn_24 (by decide) (fun c17 => ?_) (fun c17 => ?_)
      · replace h := ifT h c17
        refine lv_iconst (v := (-1)) hx hb dX5_wordIn_116 (by decide) ?_
        obtain rfl := Option.some.inj h
        exact m_ri X w hr hlocks dX5_wordIn_117
      · replace h := ifF h c17
        refine lv_iload hx hb dX5_wordIn_27 (lv_at hl 5 rfl) ?_
        refine lv_aload_n hx hb dX5_wordIn_29 rfl (lv_at hl 1 rfl) ?_
        obtain ⟨r18, q19, h⟩ := ob1i h
        refine m_ci (m_rZ (As := []) (rest := [.int v5]) X hKc w hl mi_J0_length_8abf5 rfl ml_X5_173 a1 hs_a1 (c_J0_length_8abf5 l D cy ad A aK aV C0 N S V a1 hs_a1 r18 q19) ⟨⟨rfl, rfl, Nat.le_of_ble_eq_true rfl, Nat.le_of_ble_eq_true rfl⟩, Nat.le_of_ble_eq_true rfl, Nat.le_of_ble_eq_true rfl⟩ rfl rfl (Nat.le_of_ble_eq_true rfl) dX5_wordIn_30) w (fun H locs w => ?_)
        refine lv_icmp_eq (tgt := 47) hx hb dX5_wordIn_33 (by decide) (fun c20 => ?_) (fun c20 => ?_)
        · replace h := ifT h c20
          have g := B47 v2 v3 v4 v5 h
          rw [hG] at g
          exact g H locs ls w (lv_sub hl [0, 1, 2, 3, 4, 5] rfl)
        · replace h := ifF h c20
          refine lv_aload_n hx hb dX5_wordIn_36 rfl (lv_at hl 1 rfl) ?_
          refine lv_iload hx hb dX5_wordIn_37 (lv_at hl 5 rfl) ?_
          obtain ⟨r25, q26, h⟩ := ob1i h
          refine m_ci (m_rZ (As := [.int v5]) (rest := []) X hKc w hl mi_J0_charAt_5068e rfl ml_X5_178 a1 hs_a1 (c_J0_charAt_5068e l D cy ad A aK aV C0 N S V a1 hs_a1 v5 r25 q26) ⟨⟨rfl, rfl, Nat.le_of_ble_eq_true rfl, Nat.le_of_ble_eq_true rfl⟩, Nat.le_of_ble_eq_true rfl, Nat.le_of_ble_eq_true rfl⟩ rfl rfl (Nat.le_of_ble_eq_true rfl) dX5_wordIn_39) w (fun H locs w => ?_)
          refine lv_bipush (v := 32) hx hb dX5_wordIn_42 (by decide) ?_
          refine lv_icmp_ne (tgt := 68) hx hb dX5_wordIn_44 (by decide) (fun c27 => ?_) (fun c27 => ?_)
          · replace h := ifF h c27
            refine lv_iload hx hb dX5_wordIn_68 (lv_at hl 4 rfl) ?_
            refine lv_iconst (v := (-1)) hx hb dX5_wordIn_70 (by decide) ?_
            refine lv_icmp_eq (tgt := 107) hx hb dX5_wordIn_71 (by decide) (fun c28 => ?_) (fun c28 => ?_)
            · replace h := ifT h c28
              have g := B107 v2 v3 v5 h
              rw [hG] at g
              exact g H locs ls w (lv_sub hl [0, 1, 2, 3, 5] rfl)
            · replace h := ifF h c28
              refine lv_iload hx hb dX5_wordIn_74 (lv_at hl 4 rfl) ?_
              refine lv_iload_n hx hb dX5_wordIn_76 rfl (lv_at hl 2 rfl) ?_
              refine lv_icmp_ge (tgt := 107) hx hb dX5_wordIn_77 (by decide) (fun c29 => ?_) (fun c29 => ?_)
              · replace h := ifT h c29
                have g := B107 v2 v3 v5 h
                rw [hG] at g
                exact g H locs ls w (lv_sub hl [0, 1, 2, 3, 5] rfl)
              · replace h := ifF h c29
                refine lv_aload_n hx hb dX5_wordIn_80 rfl (lv_at hl 1 rfl) ?_
                refine lv_iload hx hb dX5_wordIn_81 (lv_at hl 5 rfl) ?_
                obtain ⟨r30, q31, h⟩ := ob1i h
                refine m_ci (m_rZ (As := [.int v5]) (rest := []) X hKc w hl mi_J0_charAt_5068e rfl ml_X5_178 a1 hs_a1 (c_J0_charAt_5068e l D cy ad A aK aV C0 N S V a1 hs_a1 v5 r30 q31) ⟨⟨rfl, rfl, Nat.le_of_ble_eq_true rfl, Nat.le_of_ble_eq_true rfl⟩, Nat.le_of_ble_eq_true rfl, Nat.le_of_ble_eq_true rfl⟩ rfl rfl (Nat.le_of_ble_eq_true rfl) dX5_wordIn_83) w (fun H locs w => ?_)
                refine lv_aload_n hx hb dX5_wordIn_86 rfl (lv_at hl 0 rfl) ?_
                refine m_get X w o (shn hs 0 rfl) (shk hs 0 rfl : S.2.1 o = 5) ci5 0 (by decide) (fvR (shk hs 0 rfl : S.2.1 o = 5) rfl (shq hs 0 0 rfl rfl : S.2.2.2.1 o 0 = (o + 1) + 1)) rfl fl_X5_9 dX5_wordIn_87 ?_
                refine lv_aload_n hx hb dX5_wordIn_90 rfl (lv_at hl 0 rfl) ?_
                refine m_get X w o (shn hs 0 rfl) (shk hs 0 rfl : S.2.1 o = 5) ci5 6 (by decide) (fvI (shk hs 0 rfl : S.2.1 o = 5) rfl) rfl fl_X5_63 dX5_wordIn_91 ?_
                refine lv_iload hx hb dX5_wordIn_94 (lv_at hl 4 rfl) ?_
                refine lv_iadd hx hb dX5_wordIn_96 ?_
                obtain ⟨g32, h⟩ := cki h
                refine m_iald X w (o + 1) (shn hs 1 rfl) (shk hs 1 rfl : S.2.1 (o + 1) = 11) (shz hs 1 rfl : S.2.2.1 (o + 1) = 400) g32 dX5_wordIn_97 ?_
                refine lv_icmp_ne (tgt := 107) hx hb dX5_wordIn_98 (by decide) (fun c33 => ?_) (fun c33 => ?_)
                · replace h := ifF h c33
                  have g := B107 v2 v3 v5 h
                  rw [hG] at g
                  exact g H locs ls w (lv_sub hl [0, 1, 2, 3, 5] rfl)
                · replace h := ifT h c33
                  obtain ⟨x34, ex34⟩ : ∃ y : Int32, y = v4 + (1 : Int32) := ⟨_, rfl⟩
                  replace h := bdi h _ ex34
                  refine lv_iinc (v := x34) (lv' := [(4, .int x34), (0, .ref (ad o)), (1, .ref (aK a1)), (2, .int v2), (3, .int v3), (5, .int v5)]) hx hb dX5_wordIn_101 hl (k := 4) rfl (by rw [ex34]; rfl) (by decide) rfl (fun ls hl => ?_)
                  refine lv_goto (tgt := 110) hx hb dX5_wordIn_104 (by decide) ?_
                  have g := B110 v2 v3 x34 v5 h
                  rw [hG] at g
                  exact g H locs ls w (lv_sub hl [1, 2, 3, 4, 0, 5] rfl)
          · replace h := ifT h c27
            have g := B47 v2 v3 v4 v5 h
            rw [hG] at g
            exact g H locs ls w (lv_sub hl [0, 1, 2, 3, 4, 5] rfl)
  rw [f_X5_wordIn] at h
  refine lv_aload_n hx hb dX5_wordIn_0 rfl (lv_at hl 0 rfl) ?_
  refine m_get X w o (shn hs 0 rfl) (shk hs 0 rfl : S.2.1 o = 5) ci5 7 (by decide) (fvI (shk hs 0 rfl : S.2.1 o = 5) rfl) rfl fl_X5_41 dX5_wordIn_1 ?_
  refine lv_aload_n hx hb dX5_wordIn_4 rfl (lv_at hl 0 rfl) ?_
  refine m_get X w o (shn hs 0 rfl) (shk hs 0 rfl : S.2.1 o = 5) ci5 6 (by decide) (fvI (shk hs 0 rfl : S.2.1 o = 5) rfl) rfl fl_X5_63 dX5_wordIn_5 ?_
  refine lv_isub hx hb dX5_wordIn_8 ?_
  refine lv_topi (fun x14 ex14 => ?_)
  replace h := bdi h _ ex14
  refine lv_istore_n (lv' := [(2, .int x14), (0, .ref (ad o)), (1, .ref (aK a1))]) hx hb dX5_wordIn_9 rfl hl (by decide) rfl (fun ls hl => ?_)
  refine lv_iconst (v := 0) hx hb dX5_wordIn_10 (by decide) ?_
  refine lv_istore_n (lv' := [(3, .int (0 : Int32)), (2, .int x14), (0, .ref (ad o)), (1, .ref (aK a1))]) hx hb dX5_wordIn_11 rfl hl (by decide) rfl (fun ls hl => ?_)
  refine lv_iconst (v := 0) hx hb dX5_wordIn_12 (by decide) ?_
  refine lv_istore (lv' := [(4, .int (0 : Int32)), (3, .int (0 : Int32)), (2, .int x14), (0, .ref (ad o)), (1, .ref (aK a1))]) hx hb dX5_wordIn_13 hl (by decide) rfl (fun ls hl => ?_)
  refine lv_iconst (v := 0) hx hb dX5_wordIn_15 (by decide) ?_
  refine lv_istore (lv' := [(5, .int (0 : Int32)), (4, .int (0 : Int32)), (3, .int (0 : Int32)), (2, .int x14), (0, .ref (ad o)), (1, .ref (aK a1))]) hx hb dX5_wordIn_16 hl (by decide) rfl (fun ls hl => ?_)
  have g := L18 N x14 (0 : Int32) (0 : Int32) (0 : Int32) h
  rw [hG] at g
  exact g H locs ls w (lv_sub hl [4, 5, 3, 2, 1, 0] rfl)
