abbrev RH_X9_readSum (l : Launch) (D : va_G) (cy : Nat → ClassId) (ad : Nat → Nat) (A : Nat → Prop) (Kc : State → Prop) (z : Nat) (KR : Nat → Vt → Int32 → Option Vt) (F L : Nat) : Prop := (∀ (V : Vt) (a1 : Int32) (V' : Vt), KR 0 V a1 = some V' → Met l yX9_readSum (mw yX9_readSum cX9_readSum 2 none) { frames := F, cells := 0, slots := 0, locals := L } (PreM D cy ad Kc (SM z) V [.ref (ad 0), .int a1]) (QV D cy ad A (SM z) V') 0 0 A) ∧ (∀ (V : Vt) (a1 : Int32) (V' : Vt), KR 1 V a1 = some V' → Met l yX9_readTerm (mw yX9_readTerm cX9_readTerm 2 none) { frames := F, cells := 0, slots := 0, locals := L } (PreM D cy ad Kc (SM z) V [.ref (ad 0), .int a1]) (QV D cy ad A (SM z) V') 0 0 A) ∧ (∀ (V : Vt) (a1 : Int32) (V' : Vt), KR 2 V a1 = some V' → Met l yX9_readPart (mw yX9_readPart cX9_readPart 3 none) { frames := F, cells := 0, slots := 0, locals := L } (PreM D cy ad Kc (SM z) V [.ref (ad 0), .int a1]) (QV D cy ad A (SM z) V') 0 0 A)
def f_X9_readSum_29 (N : Nat) (KR : Nat → Vt → Int32 → Option Vt) (K5 : Vt → Int32 → Option Vt) (V : Vt) (v1 : Int32) : Option Vt := obv (KR 1 V v1) (fun V28 => K5 V28 v1)
def f_X9_readSum_5 (N : Nat) (KR : Nat → Vt → Int32 → Option Vt) : Nat → Vt → Int32 → Option Vt
  | 0, _, _ => none
  | n + 1, V, v1 => ob1 (f_X9_sign N (43 : Int32)) (fun r20 => ob (f_X9_takes0 N V r20) (fun r22 V24 => if r22 = 0 then ob1 (f_X9_sign N (45 : Int32)) (fun r29 => ob (f_X9_takes0 N V24 r29) (fun r31 V33 => if r31 = 0 then some V33 else f_X9_readSum_29 N KR (f_X9_readSum_5 N KR n) V33 v1)) else f_X9_readSum_29 N KR (f_X9_readSum_5 N KR n) V24 v1))
def f_X9_readSum (N : Nat) (KR : Nat → Vt → Int32 → Option Vt) (V : Vt) (a1 : Int32) : Option Vt := obv (KR 1 V a1) (fun V19 => f_X9_readSum_5 N KR N V19 a1)
set_option maxHeartbeats 4000000 in
set_option maxRecDepth 100000 in
theorem c_X9_readSum (l : Launch) (D : va_G) (cy : Nat → ClassId) (ad : Nat → Nat) (A : Nat → Prop) (Kc : State → Prop) (C0 : Cx ad A Kc) (N : Nat) (KR : Nat → Vt → Int32 → Option Vt) (z Fk Lk F L : Nat) (hF : Fk + 1 ≤ F) (hL : Lk + 60 ≤ L) (hF0 : 3 ≤ F) (hL0 : 63 ≤ L) (hKR : RH_X9_readSum l D cy ad A Kc z KR Fk Lk) (V : Vt) (a1 : Int32) (V' : Vt) (h : f_X9_readSum N KR V a1 = some V') : Met l yX9_readSum (mw yX9_readSum cX9_readSum 2 none) { frames := F, cells := 0, slots := 0, locals := L } (PreM D cy ad Kc (SM z) V [.ref (ad 0), .int a1]) (QV D cy ad A (SM z) V') 0 0 A := by
  refine ct_go C0 (own := RX9) rfl (by decide) rfl ?_
  intro p e s m below meth c ls H locs X hr hlocks hnm hl w
  have hx := X.1.1
  have hb := X.1.2.1
  have hown := X.2.1
  have hts := X.2.2.1
  have hl : lv_has ls 2 [(0, .ref (ad 0)), (1, .int a1)] := hl
  obtain ⟨G, hG⟩ : ∃ G : Nat → Vt → List (Nat × Value) → List Value → Prop, G = fun pc V lv st => ∀ (H : Heap) (locs : List Loc) (ls : Array Slot), Wd D cy ad A s.heap (SM z) V H locs → lv_has ls 2 lv → W p l e { frames := F, cells := 0, slots := 0, locals := L } s m ([.ref (ad 0), .int a1] : List Value).toArray below meth c H locs 0 0 (MQ below (QV D cy ad A (SM z) V') ([.ref (ad 0), .int a1] : List Value).toArray s 0 0 A) (F0 m pc ls st) := ⟨_, rfl⟩
  have L5 : ∀ (n5 : Nat) (V : Vt) (v1 : Int32), f_X9_readSum_5 N KR n5 V v1 = some V' → G 5 V [(0, .ref (ad 0)), (1, .int v1)] [] := by
    intro n5
    induction n5 with
    | zero => intro V v1 h; rw [f_X9_readSum_5] at h; cases h
    | succ n5 ih5 =>
      have B29 : ∀ (V : Vt) (v1 : Int32), f_X9_readSum_29 N KR (f_X9_readSum_5 N KR n5) V v1 = some V' → G 29 V [(0, .ref (ad 0)), (1, .int v1)] [] := by
        intro V v1 h
        rw [hG]
        intro H locs ls w hl
        rw [f_X9_readSum_29] at h
        refine lv_aload_n hx hb dX9_readSum_29 rfl (lv_at hl 0 rfl) ?_
        refine lv_iload_n hx hb dX9_readSum_30 rfl (lv_at hl 1 rfl) ?_
        obtain ⟨V28, q27, h⟩ := obvi h
        refine m_cv (m_rV (As := [.int v1]) (rest := []) X w hl mi_X9_readTerm ml_X9_224 0 sm_n0 sm_k0 rfl (hKR.2.1 V v1 V28 q27) ⟨⟨rfl, rfl, hF, (by show 8 + (2 + 11) + Lk ≤ L; omega)⟩, Nat.le_of_ble_eq_true rfl, Nat.le_of_ble_eq_true rfl⟩ rfl rfl (Nat.le_of_ble_eq_true rfl) dX9_readSum_31) w (fun H locs w => ?_)
        refine lv_goto (tgt := 5) hx hb dX9_readSum_34 (by decide) ?_
        have g := ih5 V28 v1 h
        rw [hG] at g
        exact g H locs ls w (lv_sub hl [0, 1] rfl)
      intro V v1 h
      rw [hG]
      intro H locs ls w hl
      rw [f_X9_readSum_5] at h
      refine lv_aload_n hx hb dX9_readSum_5 rfl (lv_at hl 0 rfl) ?_
      refine lv_bipush (v := 43) hx hb dX9_readSum_6 (by decide) ?_
      obtain ⟨r20, q21, h⟩ := ob1i h
      refine m_ci (m_rS (As := [.int (43 : Int32)]) (rest := [.ref (ad 0)]) X w hl mi_X9_sign ml_X9_220 (c_X9_sign l D cy ad A Kc C0 N z V (43 : Int32) r20 q21) ⟨⟨rfl, rfl, (by show 0 + 1 ≤ F; omega), (by show 8 + (1 + 11) + 0 ≤ L; omega)⟩, Nat.le_of_ble_eq_true rfl, Nat.le_of_ble_eq_true rfl⟩ rfl rfl (Nat.le_of_ble_eq_true rfl) dX9_readSum_8) w (fun H locs w => ?_)
      obtain ⟨r22, V24, q23, h⟩ := obi h
      refine m_ci (m_rV (As := [.int r20]) (rest := []) X w hl mi_X9_takes0 ml_X9_181 0 sm_n0 sm_k0 rfl (c_X9_takes0 l D cy ad A Kc C0 N z V r20 r22 V24 q23) ⟨⟨rfl, rfl, (by show 1 + 1 ≤ F; omega), (by show 8 + (3 + 11) + 20 ≤ L; omega)⟩, Nat.le_of_ble_eq_true rfl, Nat.le_of_ble_eq_true rfl⟩ rfl rfl (Nat.le_of_ble_eq_true rfl) dX9_readSum_11) w (fun H locs w => ?_)
      refine lv_if_ne (tgt := 29) hx hb dX9_readSum_14 (by decide) (fun c25 => ?_) (fun c25 => ?_)
      · replace h := ifF h c25
        have g := B29 V24 v1 h
        rw [hG] at g
        exact g H locs ls w (lv_sub hl [0, 1] rfl)
      · replace h := ifT h c25
        refine lv_aload_n hx hb dX9_readSum_17 rfl (lv_at hl 0 rfl) ?_
        refine lv_bipush (v := 45) hx hb dX9_readSum_18 (by decide) ?_
        obtain ⟨r29, q30, h⟩ := ob1i h
        refine m_ci (m_rS (As := [.int (45 : Int32)]) (rest := [.ref (ad 0)]) X w hl mi_X9_sign ml_X9_220 (c_X9_sign l D cy ad A Kc C0 N z V24 (45 : Int32) r29 q30) ⟨⟨rfl, rfl, (by show 0 + 1 ≤ F; omega), (by show 8 + (1 + 11) + 0 ≤ L; omega)⟩, Nat.le_of_ble_eq_true rfl, Nat.le_of_ble_eq_true rfl⟩ rfl rfl (Nat.le_of_ble_eq_true rfl) dX9_readSum_20) w (fun H locs w => ?_)
        obtain ⟨r31, V33, q32, h⟩ := obi h
        refine m_ci (m_rV (As := [.int r29]) (rest := []) X w hl mi_X9_takes0 ml_X9_181 0 sm_n0 sm_k0 rfl (c_X9_takes0 l D cy ad A Kc C0 N z V24 r29 r31 V33 q32) ⟨⟨rfl, rfl, (by show 1 + 1 ≤ F; omega), (by show 8 + (3 + 11) + 20 ≤ L; omega)⟩, Nat.le_of_ble_eq_true rfl, Nat.le_of_ble_eq_true rfl⟩ rfl rfl (Nat.le_of_ble_eq_true rfl) dX9_readSum_23) w (fun H locs w => ?_)
        refine lv_if_eq (tgt := 37) hx hb dX9_readSum_26 (by decide) (fun c34 => ?_) (fun c34 => ?_)
        · replace h := ifT h c34
          obtain rfl := Option.some.inj h
          exact m_rv X w hr hlocks dX9_readSum_37
        · replace h := ifF h c34
          have g := B29 V33 v1 h
          rw [hG] at g
          exact g H locs ls w (lv_sub hl [0, 1] rfl)
  rw [f_X9_readSum] at h
  refine lv_aload_n hx hb dX9_readSum_0 rfl (lv_at hl 0 rfl) ?_
  refine lv_iload_n hx hb dX9_readSum_1 rfl (lv_at hl 1 rfl) ?_
  obtain ⟨V19, q18, h⟩ := obvi h
  refine m_cv (m_rV (As := [.int a1]) (rest := []) X w hl mi_X9_readTerm ml_X9_224 0 sm_n0 sm_k0 rfl (hKR.2.1 V a1 V19 q18) ⟨⟨rfl, rfl, hF, (by show 8 + (2 + 11) + Lk ≤ L; omega)⟩, Nat.le_of_ble_eq_true rfl, Nat.le_of_ble_eq_true rfl⟩ rfl rfl (Nat.le_of_ble_eq_true rfl) dX9_readSum_2) w (fun H locs w => ?_)
  have g := L5 N V19 a1 h
  rw [hG] at g
  exact g H locs ls w (lv_sub hl [0, 1] rfl)
def f_X9_readTerm_41 (N : Nat) (KR : Nat → Vt → Int32 → Option Vt) (K5 : Vt → Int32 → Option Vt) (V : Vt) (v1 : Int32) : Option Vt := obv (KR 2 V v1) (fun V33 => K5 V33 v1)
def f_X9_readTerm_5 (N : Nat) (KR : Nat → Vt → Int32 → Option Vt) : Nat → Vt → Int32 → Option Vt
  | 0, _, _ => none
  | n + 1, V, v1 => ob1 (f_X9_sign N (42 : Int32)) (fun r25 => ob (f_X9_takes0 N V r25) (fun r27 V29 => if r27 = 0 then ob1 (f_X9_sign N (47 : Int32)) (fun r34 => ob (f_X9_takes0 N V29 r34) (fun r36 V38 => if r36 = 0 then ob1 (f_X9_sign N (37 : Int32)) (fun r40 => ob (f_X9_takes0 N V38 r40) (fun r42 V44 => if r42 = 0 then some V44 else f_X9_readTerm_41 N KR (f_X9_readTerm_5 N KR n) V44 v1)) else f_X9_readTerm_41 N KR (f_X9_readTerm_5 N KR n) V38 v1)) else f_X9_readTerm_41 N KR (f_X9_readTerm_5 N KR n) V29 v1))
def f_X9_readTerm (N : Nat) (KR : Nat → Vt → Int32 → Option Vt) (V : Vt) (a1 : Int32) : Option Vt := obv (KR 2 V a1) (fun V24 => f_X9_readTerm_5 N KR N V24 a1)
set_option maxHeartbeats 4000000 in
set_option maxRecDepth 100000 in
theorem c_X9_readTerm (l : Launch) (D : va_G) (cy : Nat → ClassId) (ad : Nat → Nat) (A : Nat → Prop) (Kc : State → Prop) (C0 : Cx ad A Kc) (N : Nat) (KR : Nat → Vt → Int32 → Option Vt) (z Fk Lk F L : Nat) (hF : Fk + 1 ≤ F) (hL : Lk + 60 ≤ L) (hF0 : 3 ≤ F) (hL0 : 63 ≤ L) (hKR : RH_X9_readSum l D cy ad A Kc z KR Fk Lk) (V : Vt) (a1 : Int32) (V' : Vt) (h : f_X9_readTerm N KR V a1 = some V') : Met l yX9_readTerm (mw yX9_readTerm cX9_readTerm 2 none) { frames := F, cells := 0, slots := 0, locals := L } (PreM D cy ad Kc (SM z) V [.ref (ad 0), .int a1]) (QV D cy ad A (SM z) V') 0 0 A := by
  refine ct_go C0 (own := RX9) rfl (by decide) rfl ?_
  intro p e s m below meth c ls H locs X hr hlocks hnm hl w
  have hx := X.1.1
  have hb := X.1.2.1
  have hown := X.2.1
  have hts := X.2.2.1
  have hl : lv_has ls 2 [(0, .ref (ad 0)), (1, .int a1)] := hl
  obtain ⟨G, hG⟩ : ∃ G : Nat → Vt → List (Nat × Value) → List Value → Prop, G = fun pc V lv st => ∀ (H : Heap) (locs : List Loc) (ls : Array Slot), Wd D cy ad A s.heap (SM z) V H locs → lv_has ls 2 lv → W p l e { frames := F, cells := 0, slots := 0, locals := L } s m ([.ref (ad 0), .int a1] : List Value).toArray below meth c H locs 0 0 (MQ below (QV D cy ad A (SM z) V') ([.ref (ad 0), .int a1] : List Value).toArray s 0 0 A) (F0 m pc ls st) := ⟨_, rfl⟩
  have L5 : ∀ (n5 : Nat) (V : Vt) (v1 : Int32), f_X9_readTerm_5 N KR n5 V v1 = some V' → G 5 V [(0, .ref (ad 0)), (1, .int v1)] [] := by
    intro n5
    induction n5 with
    | zero => intro V v1 h; rw [f_X9_readTerm_5] at h; cases h
    | succ n5 ih5 =>
      have B41 : ∀ (V : Vt) (v1 : Int32), f_X9_readTerm_41 N KR (f_X9_readTerm_5 N KR n5) V v1 = some V' → G 41 V [(0, .ref (ad 0)), (1, .int v1)] [] := by
        intro V v1 h
        rw [hG]
        intro H locs ls w hl
        rw [f_X9_readTerm_41] at h
        refine lv_aload_n hx hb dX9_readTerm_41 rfl (lv_at hl 0 rfl) ?_
        refine lv_iload_n hx hb dX9_readTerm_42 rfl (lv_at hl 1 rfl) ?_
        obtain ⟨V33, q32, h⟩ := obvi h
        refine m_cv (m_rV (As := [.int v1]) (rest := []) X w hl mi_X9_readPart ml_X9_227 0 sm_n0 sm_k0 rfl (hKR.2.2 V v1 V33 q32) ⟨⟨rfl, rfl, hF, (by show 8 + (3 + 11) + Lk ≤ L; omega)⟩, Nat.le_of_ble_eq_true rfl, Nat.le_of_ble_eq_true rfl⟩ rfl rfl (Nat.le_of_ble_eq_true rfl) dX9_readTerm_43) w (fun H locs w => ?_)
        refine lv_goto (tgt := 5) hx hb dX9_readTerm_46 (by decide) ?_
        have g := ih5 V33 v1 h
        rw [hG] at g
        exact g H locs ls w (lv_sub hl [0, 1] rfl)
      intro V v1 h
      rw [hG]
      intro H locs ls w hl
      rw [f_X9_readTerm_5] at h
      refine lv_aload_n hx hb dX9_readTerm_5 rfl (lv_at hl 0 rfl) ?_
      refine lv_bipush (v := 42) hx hb dX9_readTerm_6 (by decide) ?_
      obtain ⟨r25, q26, h⟩ := ob1i h
      refine m_ci (m_rS (As := [.int (42 : Int32)]) (rest := [.ref (ad 0)]) X w hl mi_X9_sign ml_X9_220 (c_X9_sign l D cy ad A Kc C0 N z V (42 : Int32) r25 q26) ⟨⟨rfl, rfl, (by show 0 + 1 ≤ F; omega), (by show 8 + (1 + 11) + 0 ≤ L; omega)⟩, Nat.le_of_ble_eq_true rfl, Nat.le_of_ble_eq_true rfl⟩ rfl rfl (Nat.le_of_ble_eq_true rfl) dX9_readTerm_8) w (fun H locs w => ?_)
      obtain ⟨r27, V29, q28, h⟩ := obi h
      refine m_ci (m_rV (As := [.int r25]) (rest := []) X w hl mi_X9_takes0 ml_X9_181 0 sm_n0 sm_k0 rfl (c_X9_takes0 l D cy ad A Kc C0 N z V r25 r27 V29 q28) ⟨⟨rfl, rfl, (by show 1 + 1 ≤ F; omega), (by show 8 + (3 + 11) + 20 ≤ L; omega)⟩, Nat.le_of_ble_eq_true rfl, Nat.le_of_ble_eq_true rfl⟩ rfl rfl (Nat.le_of_ble_eq_true rfl) dX9_readTerm_11) w (fun H locs w => ?_)
      refine lv_if_ne (tgt := 41) hx hb dX9_readTerm_14 (by decide) (fun c30 => ?_) (fun c30 => ?_)
      · replace h := ifF h c30
        have g := B41 V29 v1 h
        rw [hG] at g
        exact g H locs ls w (lv_sub hl [0, 1] rfl)
      · replace h := ifT h c30
        refine lv_aload_n hx hb dX9_readTerm_17 rfl (lv_at hl 0 rfl) ?_
        refine lv_bipush (v := 47) hx hb dX9_readTerm_18 (by decide) ?_
        obtain ⟨r34, q35, h⟩ := ob1i h
        refine m_ci (m_rS (As := [.int (47 : Int32)]) (rest := [.ref (ad 0)]) X w hl mi_X9_sign ml_X9_220 (c_X9_sign l D cy ad A Kc C0 N z V29 (47 : Int32) r34 q35) ⟨⟨rfl, rfl, (by show 0 + 1 ≤ F; omega), (by show 8 + (1 + 11) + 0 ≤ L; omega)⟩, Nat.le_of_ble_eq_true rfl, Nat.le_of_ble_eq_true rfl⟩ rfl rfl (Nat.le_of_ble_eq_true rfl) dX9_readTerm_20) w (fun H locs w => ?_)
        obtain ⟨r36, V38, q37, h⟩ := obi h
        refine m_ci (m_rV (As := [.int r34]) (rest := []) X w hl mi_X9_takes0 ml_X9_181 0 sm_n0 sm_k0 rfl (c_X9_takes0 l D cy ad A Kc C0 N z V29 r34 r36 V38 q37) ⟨⟨rfl, rfl, (by show 1 + 1 ≤ F; omega), (by show 8 + (3 + 11) + 20 ≤ L; omega)⟩, Nat.le_of_ble_eq_true rfl, Nat.le_of_ble_eq_true rfl⟩ rfl rfl (Nat.le_of_ble_eq_true rfl) dX9_readTerm_23) w (fun H locs w => ?_)
        refine lv_if_ne (tgt := 41) hx hb dX9_readTerm_26 (by decide) (fun c39 => ?_) (fun c39 => ?_)
        · replace h := ifF h c39
          have g := B41 V38 v1 h
          rw [hG] at g
          exact g H locs ls w (lv_sub hl [0, 1] rfl)
        · replace h := ifT h c39
          refine lv_aload_n hx hb dX9_readTerm_29 rfl (lv_at hl 0 rfl) ?_
          refine lv_bipush (v := 37) hx hb dX9_readTerm_30 (by decide) ?_
          obtain ⟨r40, q41, h⟩ := ob1i h
          refine m_ci (m_rS (As := [.int (37 : Int32)]) (rest := [.ref (ad 0)]) X w hl mi_X9_sign ml_X9_220 (c_X9_sign l D cy ad A Kc C0 N z V38 (37 : Int32) r40 q41) ⟨⟨rfl, rfl, (by show 0 + 1 ≤ F; omega), (by show 8 + (1 + 11) + 0 ≤ L; omega)⟩, Nat.le_of_ble_eq_true rfl, Nat.le_of_ble_eq_true rfl⟩ rfl rfl (Nat.le_of_ble_eq_true rfl) dX9_readTerm_32) w (fun H locs w => ?_)
          obtain ⟨r42, V44, q43, h⟩ := obi h
          refine m_ci (m_rV (As := [.int r40]) (rest := []) X w hl mi_X9_takes0 ml_X9_181 0 sm_n0 sm_k0 rfl (c_X9_takes0 l D cy ad A Kc C0 N z V38 r40 r42 V44 q43) ⟨⟨rfl, rfl, (by show 1 + 1 ≤ F; omega), (by show 8 + (3 + 11) + 20 ≤ L; omega)⟩, Nat.le_of_ble_eq_true rfl, Nat.le_of_ble_eq_true rfl⟩ rfl rfl (Nat.le_of_ble_eq_true rfl) dX9_readTerm_35) w (fun H locs w => ?_)
          refine lv_if_eq (tgt := 49) hx hb dX9_readTerm_38 (by decide) (fun c45 => ?_) (fun c45 => ?_)
          · replace h := ifT h c45
            obtain rfl := Option.some.inj h
            exact m_rv X w hr hlocks dX9_readTerm_49
          · replace h := ifF h c45
            have g := B41 V44 v1 h
            rw [hG] at g
            exact g H locs ls w (lv_sub hl [0, 1] rfl)
  rw [f_X9_readTerm] at h
  refine lv_aload_n hx hb dX9_readTerm_0 rfl (lv_at hl 0 rfl) ?_
  refine lv_iload_n hx hb dX9_readTerm_1 rfl (lv_at hl 1 rfl) ?_
  obtain ⟨V24, q23, h⟩ := obvi h
  refine m_cv (m_rV (As := [.int a1]) (rest := []) X w hl mi_X9_readPart ml_X9_227 0 sm_n0 sm_k0 rfl (hKR.2.2 V a1 V24 q23) ⟨⟨rfl, rfl, hF, (by show 8 + (3 + 11) + Lk ≤ L; omega)⟩, Nat.le_of_ble_eq_true rfl, Nat.le_of_ble_eq_true rfl⟩ rfl rfl (Nat.le_of_ble_eq_true rfl) dX9_readTerm_2) w (fun H locs w => ?_)
  have g := L5 N V24 a1 h
  rw [hG] at g
  exact g H locs ls w (lv_sub hl [0, 1] rfl)
def f_X9_readPart_169 (N : Nat) (KR : Nat → Vt → Int32 → Option Vt) (V : Vt) : Option Vt := obv (f_X9_faults N V) (fun V46 => some V46)
def f_X9_readPart_160 (N : Nat) (KR : Nat → Vt → Int32 → Option Vt) (V : Vt) : Option Vt := obv (f_X9_mustNumber N V (0 : Int32) (4 : Int32)) (fun V56 => some V56)
def f_X9_readPart_135 (N : Nat) (KR : Nat → Vt → Int32 → Option Vt) (V : Vt) (v2 : Int32) : Option Vt := if (V.1 0 10) = 0 then some V else if v2 = (16 : Int32) then f_X9_readPart_160 N KR V  else if v2 = (17 : Int32) then f_X9_readPart_160 N KR V  else if v2 = (21 : Int32) then f_X9_readPart_160 N KR V  else some V
def f_X9_readPart_111 (N : Nat) (KR : Nat → Vt → Int32 → Option Vt) (V : Vt) (v2 : Int32) : Option Vt := obv (f_X9_leaf N V) (fun V50 => if (V50.1 0 10) = 0 then f_X9_readPart_135 N KR V50 v2 else if v2 = (15 : Int32) then obv (f_X9_mustNumber N V50 (0 : Int32) (24 : Int32)) (fun V62 => f_X9_readPart_135 N KR V62 v2) else f_X9_readPart_135 N KR V50 v2)
def f_X9_readPart_95 (N : Nat) (KR : Nat → Vt → Int32 → Option Vt) (V : Vt) (v2 : Int32) : Option Vt := if v2 < (V.1 0 8) then f_X9_readPart_169 N KR V  else if (V.1 0 9) < v2 then f_X9_readPart_169 N KR V  else f_X9_readPart_111 N KR V v2
def f_X9_readPart_37 (N : Nat) (KR : Nat → Vt → Int32 → Option Vt) (V : Vt) (v1 : Int32) : Option Vt := ob1 (f_X9_fine N V) (fun r66 => if r66 = 0 then some V else bd (sF V 0 19 ((V.1 0 19) + (1 : Int32))) (fun V69 => obv (KR 0 V69 (v1 + (1 : Int32))) (fun V72 => ob1 (f_X9_sign N (93 : Int32)) (fun r73 => obv (f_X9_must N V72 r73) (fun V77 => some V77)))))
def f_X9_readPart (N : Nat) (KR : Nat → Vt → Int32 → Option Vt) (V : Vt) (a1 : Int32) : Option Vt := ob1 (f_X9_fine N V) (fun r34 => if r34 = 0 then some V else ck (V.1 0 19) 401 (bd (V.2.1 9 (V.1 0 19).toNatClampNeg) (fun x38 => ob1 (f_X9_sign N (91 : Int32)) (fun r39 => if x38 = r39 then if a1 = (8 : Int32) then obv (f_X9_faults N V) (fun V80 => f_X9_readPart_37 N KR V80 a1) else f_X9_readPart_37 N KR V a1 else if x38 = (50 : Int32) then ck (V.1 0 19) 401 (if (V.2.1 10 (V.1 0 19).toNatClampNeg) ≤ (1000 : Int32) then f_X9_readPart_111 N KR V x38 else f_X9_readPart_95 N KR V x38) else f_X9_readPart_95 N KR V x38))))
set_option maxHeartbeats 4000000 in
set_option maxRecDepth 100000 in
theorem c_X9_readPart (l : Launch) (D : va_G) (cy : Nat → ClassId) (ad : Nat → Nat) (A : Nat → Prop) (Kc : State → Prop) (C0 : Cx ad A Kc) (N : Nat) (KR : Nat → Vt → Int32 → Option Vt) (z Fk Lk F L : Nat) (hF : Fk + 1 ≤ F) (hL : Lk + 60 ≤ L) (hF0 : 3 ≤ F) (hL0 : 63 ≤ L) (hKR : RH_X9_readSum l D cy ad A Kc z KR Fk Lk) (V : Vt) (a1 : Int32) (V' : Vt) (h : f_X9_readPart N KR V a1 = some V') : Met l yX9_readPart (mw yX9_readPart cX9_readPart 3 none) { frames := F, cells := 0, slots := 0, locals := L } (PreM D cy ad Kc (SM z) V [.ref (ad 0), .int a1]) (QV D cy ad A (SM z) V') 0 0 A := by
  refine ct_go C0 (own := RX9) rfl (by decide) rfl ?_
  intro p e s m below meth c ls H locs X hr hlocks hnm hl w
  have hx := X.1.1
  have hb := X.1.2.1
  have hown := X.2.1
  have hts := X.2.2.1
  have hl : lv_has ls 3 [(0, .ref (ad 0)), (1, .int a1)] := hl
  obtain ⟨G, hG⟩ : ∃ G : Nat → Vt → List (Nat × Value) → List Value → Prop, G = fun pc V lv st => ∀ (H : Heap) (locs : List Loc) (ls : Array Slot), Wd D cy ad A s.heap (SM z) V H locs → lv_has ls 3 lv → W p l e { frames := F, cells := 0, slots := 0, locals := L } s m ([.ref (ad 0), .int a1] : List Value).toArray below meth c H locs 0 0 (MQ below (QV D cy ad A (SM z) V') ([.ref (ad 0), .int a1] : List Value).toArray s 0 0 A) (F0 m pc ls st) := ⟨_, rfl⟩
  have B169 : ∀ (V : Vt), f_X9_readPart_169 N KR V  = some V' → G 169 V [(0, .ref (ad 0))] [] := by
    intro V  h
    rw [hG]
    intro H locs ls w hl
    rw [f_X9_readPart_169] at h
    refine lv_aload_n hx hb dX9_readPart_169 rfl (lv_at hl 0 rfl) ?_
    obtain ⟨V46, q45, h⟩ := obvi h
    refine m_cv (m_rV (As := []) (rest := []) X w hl mi_X9_faults ml_X9_184 0 sm_n0 sm_k0 rfl (c_X9_faults l D cy ad A Kc C0 N z V  V46 q45) ⟨⟨rfl, rfl, (by show 1 + 1 ≤ F; omega), (by show 8 + (1 + 11) + 20 ≤ L; omega)⟩, Nat.le_of_ble_eq_true rfl, Nat.le_of_ble_eq_true rfl⟩ rfl rfl (Nat.le_of_ble_eq_true rfl) dX9_readPart_170) w (fun H locs w => ?_)
    obtain rfl := Option.some.inj h
    exact m_rv X w hr hlocks dX9_readPart_173
  have B160 : ∀ (V : Vt), f_X9_readPart_160 N KR V  = some V' → G 160 V [(0, .ref (ad 0))] [] := by
    intro V  h
    rw [hG]
    intro H locs ls w hl
    rw [f_X9_readPart_160] at h
    refine lv_aload_n hx hb dX9_readPart_160 rfl (lv_at hl 0 rfl) ?_
    refine lv_iconst (v := 0) hx hb dX9_readPart_161 (by decide) ?_
    refine lv_iconst (v := 4) hx hb dX9_readPart_162 (by decide) ?_
    obtain ⟨V56, q55, h⟩ := obvi h
    refine m_cv (m_rV (As := [.int (0 : Int32), .int (4 : Int32)]) (rest := []) X w hl mi_X9_mustNumber ml_X9_200 0 sm_n0 sm_k0 rfl (c_X9_mustNumber l D cy ad A Kc C0 N z V (0 : Int32) (4 : Int32) V56 q55) ⟨⟨rfl, rfl, (by show 2 + 1 ≤ F; omega), (by show 8 + (3 + 11) + 40 ≤ L; omega)⟩, Nat.le_of_ble_eq_true rfl, Nat.le_of_ble_eq_true rfl⟩ rfl rfl (Nat.le_of_ble_eq_true rfl) dX9_readPart_163) w (fun H locs w => ?_)
    refine lv_goto (tgt := 173) hx hb dX9_readPart_166 (by decide) ?_
    obtain rfl := Option.some.inj h
    exact m_rv X w hr hlocks dX9_readPart_173
  have B135 : ∀ (V : Vt) (v2 : Int32), f_X9_readPart_135 N KR V v2 = some V' → G 135 V [(0, .ref (ad 0)), (2, .int v2)] [] := by
    intro V v2 h
    rw [hG]
    intro H locs ls w hl
    rw [f_X9_readPart_135] at h
    refine lv_aload_n hx hb dX9_readPart_135 rfl (lv_at hl 0 rfl) ?_
    refine m_get X w 0 sm_n0 sm_k0 ci9 10 (by decide) (fvI sm_k0 rfl) rfl fl_X9_204 dX9_readPart_136 ?_
    refine lv_if_eq (tgt := 173) hx hb dX9_readPart_139 (by decide) (fun c52 => ?_) (fun c52 => ?_)
    · replace h := ifT h c52
      obtain rfl := Option.some.inj h
      exact m_rv X w hr hlocks dX9_readPart_173
    · replace h := ifF h c52
      refine lv_iload_n hx hb dX9_readPart_142 rfl (lv_at hl 1 rfl) ?_
      refine lv_bipush (v := 16) hx hb dX9_readPart_143 (by decide) ?_
      refine lv_icmp_eq (tgt := 160) hx hb dX9_readPart_145 (by decide) (fun c53 => ?_) (fun c53 => ?_)
      · replace h := ifT h c53
        have g := B160 V  h
        rw [hG] at g
        exact g H locs ls w (lv_sub hl [0] rfl)
      · replace h := ifF h c53
        refine lv_iload_n hx hb dX9_readPart_148 rfl (lv_at hl 1 rfl) ?_
        refine lv_bipush (v := 17) hx hb dX9_readPart_149 (by decide) ?_
        refine lv_icmp_eq (tgt := 160) hx hb dX9_readPart_151 (by decide) (fun c57 => ?_) (fun c57 => ?_)
        · replace h := ifT h c57
          have g := B160 V  h
          rw [hG] at g
          exact g H locs ls w (lv_sub hl [0] rfl)
        · replace h := ifF h c57
          refine lv_iload_n hx hb dX9_readPart_154 rfl (lv_at hl 1 rfl) ?_
          refine lv_bipush (v := 21) hx hb dX9_readPart_155 (by decide) ?_
          refine lv_icmp_ne (tgt := 173) hx hb dX9_readPart_157 (by decide) (fun c58 => ?_) (fun c58 => ?_)
          · replace h := ifF h c58
            obtain rfl := Option.some.inj h
            exact m_rv X w hr hlocks dX9_readPart_173
          · replace h := ifT h c58
            have g := B160 V  h
            rw [hG] at g
            exact g H locs ls w (lv_sub hl [0] rfl)
  have B111 : ∀ (V : Vt) (v2 : Int32), f_X9_readPart_111 N KR V v2 = some V' → G 111 V [(0, .ref (ad 0)), (2, .int v2)] [] := by
    intro V v2 h
    rw [hG]
    intro H locs ls w hl
    rw [f_X9_readPart_111] at h
    refine lv_aload_n hx hb dX9_readPart_111 rfl (lv_at hl 0 rfl) ?_
    obtain ⟨V50, q49, h⟩ := obvi h
    refine m_cv (m_rV (As := []) (rest := []) X w hl mi_X9_leaf ml_X9_236 0 sm_n0 sm_k0 rfl (c_X9_leaf l D cy ad A Kc C0 N z V  V50 q49) ⟨⟨rfl, rfl, (by show 2 + 1 ≤ F; omega), (by show 8 + (1 + 11) + 40 ≤ L; omega)⟩, Nat.le_of_ble_eq_true rfl, Nat.le_of_ble_eq_true rfl⟩ rfl rfl (Nat.le_of_ble_eq_true rfl) dX9_readPart_112) w (fun H locs w => ?_)
    refine lv_aload_n hx hb dX9_readPart_115 rfl (lv_at hl 0 rfl) ?_
    refine m_get X w 0 sm_n0 sm_k0 ci9 10 (by decide) (fvI sm_k0 rfl) rfl fl_X9_204 dX9_readPart_116 ?_
    refine lv_if_eq (tgt := 135) hx hb dX9_readPart_119 (by decide) (fun c51 => ?_) (fun c51 => ?_)
    · replace h := ifT h c51
      have g := B135 V50 v2 h
      rw [hG] at g
      exact g H locs ls w (lv_sub hl [0, 1] rfl)
    · replace h := ifF h c51
      refine lv_iload_n hx hb dX9_readPart_122 rfl (lv_at hl 1 rfl) ?_
      refine lv_bipush (v := 15) hx hb dX9_readPart_123 (by decide) ?_
      refine lv_icmp_ne (tgt := 135) hx hb dX9_readPart_125 (by decide) (fun c59 => ?_) (fun c59 => ?_)
      · replace h := ifF h c59
        have g := B135 V50 v2 h
        rw [hG] at g
        exact g H locs ls w (lv_sub hl [0, 1] rfl)
      · replace h := ifT h c59
        refine lv_aload_n hx hb dX9_readPart_128 rfl (lv_at hl 0 rfl) ?_
        refine lv_iconst (v := 0) hx hb dX9_readPart_129 (by decide) ?_
        refine lv_bipush (v := 24) hx hb dX9_readPart_130 (by decide) ?_
        obtain ⟨V62, q61, h⟩ := obvi h
        refine m_cv (m_rV (As := [.int (0 : Int32), .int (24 : Int32)]) (rest := []) X w hl mi_X9_mustNumber ml_X9_200 0 sm_n0 sm_k0 rfl (c_X9_mustNumber l D cy ad A Kc C0 N z V50 (0 : Int32) (24 : Int32) V62 q61) ⟨⟨rfl, rfl, (by show 2 + 1 ≤ F; omega), (by show 8 + (3 + 11) + 40 ≤ L; omega)⟩, Nat.le_of_ble_eq_true rfl, Nat.le_of_ble_eq_true rfl⟩ rfl rfl (Nat.le_of_ble_eq_true rfl) dX9_readPart_132) w (fun H locs w => ?_)
        have g := B135 V62 v2 h
        rw [hG] at g
        exact g H locs ls w (lv_sub hl [0, 1] rfl)
  have B95 : ∀ (V : Vt) (v2 : Int32), f_X9_readPart_95 N KR V v2 = some V' → G 95 V [(0, .ref (ad 0)), (2, .int v2)] [] := by
    intro V v2 h
    rw [hG]
    intro H locs ls w hl
    rw [f_X9_readPart_95] at h
    refine lv_iload_n hx hb dX9_readPart_95 rfl (lv_at hl 1 rfl) ?_
    refine lv_aload_n hx hb dX9_readPart_96 rfl (lv_at hl 0 rfl) ?_
    refine m_get X w 0 sm_n0 sm_k0 ci9 8 (by decide) (fvI sm_k0 rfl) rfl fl_X9_230 dX9_readPart_97 ?_
    refine lv_icmp_lt (tgt := 169) hx hb dX9_readPart_100 (by decide) (fun c43 => ?_) (fun c43 => ?_)
    · replace h := ifT h c43
      have g := B169 V  h
      rw [hG] at g
      exact g H locs ls w (lv_sub hl [0] rfl)
    · replace h := ifF h c43
      refine lv_iload_n hx hb dX9_readPart_103 rfl (lv_at hl 1 rfl) ?_
      refine lv_aload_n hx hb dX9_readPart_104 rfl (lv_at hl 0 rfl) ?_
      refine m_get X w 0 sm_n0 sm_k0 ci9 9 (by decide) (fvI sm_k0 rfl) rfl fl_X9_233 dX9_readPart_105 ?_
      refine lv_icmp_gt (tgt := 169) hx hb dX9_readPart_108 (by decide) (fun c47 => ?_) (fun c47 => ?_)
      · replace h := ifT h c47
        have g := B169 V  h
        rw [hG] at g
        exact g H locs ls w (lv_sub hl [0] rfl)
      · replace h := ifF h c47
        have g := B111 V v2 h
        rw [hG] at g
        exact g H locs ls w (lv_sub hl [0, 1] rfl)
  have B37 : ∀ (V : Vt) (v1 : Int32), f_X9_readPart_37 N KR V v1 = some V' → G 37 V [(0, .ref (ad 0)), (1, .int v1)] [] := by
    intro V v1 h
    rw [hG]
    intro H locs ls w hl
    rw [f_X9_readPart_37] at h
    refine lv_aload_n hx hb dX9_readPart_37 rfl (lv_at hl 0 rfl) ?_
    obtain ⟨r66, q67, h⟩ := ob1i h
    refine m_ci (m_rV (As := []) (rest := []) X w hl mi_X9_fine ml_X9_174 0 sm_n0 sm_k0 rfl (c_X9_fine l D cy ad A Kc C0 N z V  r66 q67) ⟨⟨rfl, rfl, (by show 0 + 1 ≤ F; omega), (by show 8 + (1 + 11) + 0 ≤ L; omega)⟩, Nat.le_of_ble_eq_true rfl, Nat.le_of_ble_eq_true rfl⟩ rfl rfl (Nat.le_of_ble_eq_true rfl) dX9_readPart_38) w (fun H locs w => ?_)
    refine lv_if_ne (tgt := 45) hx hb dX9_readPart_41 (by decide) (fun c68 => ?_) (fun c68 => ?_)
    · replace h := ifF h c68
      refine lv_aload_n hx hb dX9_readPart_45 rfl (lv_at hl 0 rfl) ?_
      refine lv_dup hx hb dX9_readPart_46 rfl ?_
      refine m_get X w 0 sm_n0 sm_k0 ci9 19 (by decide) (fvI sm_k0 rfl) rfl fl_X9_178 dX9_readPart_47 ?_
      refine lv_iconst (v := 1) hx hb dX9_readPart_50 (by decide) ?_
      refine lv_iadd hx hb dX9_readPart_51 ?_
      refine m_put X w 0 sm_n0 sm_k0 ci9 19 (by decide) rfl rfl rfl rfl rfl fl_X9_178 dX9_readPart_52 (fun V69 H locs eV69 w => ?_)
      replace h := bdi h _ eV69
      refine lv_aload_n hx hb dX9_readPart_55 rfl (lv_at hl 0 rfl) ?_
      refine lv_iload_n hx hb dX9_readPart_56 rfl (lv_at hl 1 rfl) ?_
      refine lv_iconst (v := 1) hx hb dX9_readPart_57 (by decide) ?_
      refine lv_iadd hx hb dX9_readPart_58 ?_
      obtain ⟨V72, q71, h⟩ := obvi h
      refine m_cv (m_rV (As := [.int (v1 + (1 : Int32))]) (rest := []) X w hl mi_X9_readSum ml_X9_190 0 sm_n0 sm_k0 rfl (hKR.1 V69 (v1 + (1 : Int32)) V72 q71) ⟨⟨rfl, rfl, hF, (by show 8 + (2 + 11) + Lk ≤ L; omega)⟩, Nat.le_of_ble_eq_true rfl, Nat.le_of_ble_eq_true rfl⟩ rfl rfl (Nat.le_of_ble_eq_true rfl) dX9_readPart_59) w (fun H locs w => ?_)
      refine lv_aload_n hx hb dX9_readPart_62 rfl (lv_at hl 0 rfl) ?_
      refine lv_bipush (v := 93) hx hb dX9_readPart_63 (by decide) ?_
      obtain ⟨r73, q74, h⟩ := ob1i h
      refine m_ci (m_rS (As := [.int (93 : Int32)]) (rest := [.ref (ad 0)]) X w hl mi_X9_sign ml_X9_220 (c_X9_sign l D cy ad A Kc C0 N z V72 (93 : Int32) r73 q74) ⟨⟨rfl, rfl, (by show 0 + 1 ≤ F; omega), (by show 8 + (1 + 11) + 0 ≤ L; omega)⟩, Nat.le_of_ble_eq_true rfl, Nat.le_of_ble_eq_true rfl⟩ rfl rfl (Nat.le_of_ble_eq_true rfl) dX9_readPart_65) w (fun H locs w => ?_)
      obtain ⟨V77, q76, h⟩ := obvi h
      refine m_cv (m_rV (As := [.int r73]) (rest := []) X w hl mi_X9_must ml_X9_194 0 sm_n0 sm_k0 rfl (c_X9_must l D cy ad A Kc C0 N z V72 r73 V77 q76) ⟨⟨rfl, rfl, (by show 2 + 1 ≤ F; omega), (by show 8 + (2 + 11) + 42 ≤ L; omega)⟩, Nat.le_of_ble_eq_true rfl, Nat.le_of_ble_eq_true rfl⟩ rfl rfl (Nat.le_of_ble_eq_true rfl) dX9_readPart_68) w (fun H locs w => ?_)
      refine lv_goto (tgt := 173) hx hb dX9_readPart_71 (by decide) ?_
      obtain rfl := Option.some.inj h
      exact m_rv X w hr hlocks dX9_readPart_173
    · replace h := ifT h c68
      obtain rfl := Option.some.inj h
      exact m_rv X w hr hlocks dX9_readPart_44
  rw [f_X9_readPart] at h
  refine lv_aload_n hx hb dX9_readPart_0 rfl (lv_at hl 0 rfl) ?_
  obtain ⟨r34, q35, h⟩ := ob1i h
  refine m_ci (m_rV (As := []) (rest := []) X w hl mi_X9_fine ml_X9_174 0 sm_n0 sm_k0 rfl (c_X9_fine l D cy ad A Kc C0 N z V  r34 q35) ⟨⟨rfl, rfl, (by show 0 + 1 ≤ F; omega), (by show 8 + (1 + 11) + 0 ≤ L; omega)⟩, Nat.le_of_ble_eq_true rfl, Nat.le_of_ble_eq_true rfl⟩ rfl rfl (Nat.le_of_ble_eq_true rfl) dX9_readPart_1) w (fun H locs w => ?_)
  refine lv_if_ne (tgt := 8) hx hb dX9_readPart_4 (by decide) (fun c36 => ?_) (fun c36 => ?_)
  · replace h := ifF h c36
    refine lv_aload_n hx hb dX9_readPart_8 rfl (lv_at hl 0 rfl) ?_
    refine m_get X w 0 sm_n0 sm_k0 ci9 15 (by decide) (fvR sm_k0 rfl sm_p15) rfl fl_X9_54 dX9_readPart_9 ?_
    refine lv_aload_n hx hb dX9_readPart_12 rfl (lv_at hl 0 rfl) ?_
    refine m_get X w 0 sm_n0 sm_k0 ci9 19 (by decide) (fvI sm_k0 rfl) rfl fl_X9_178 dX9_readPart_13 ?_
    obtain ⟨g37, h⟩ := cki h
    refine m_iald X w 9 sm_n9 sm_k9 sm_z9 g37 dX9_readPart_16 ?_
    refine lv_topi (fun x38 ex38 => ?_)
    replace h := bdi h _ ex38
    refine lv_istore_n (lv' := [(2, .int x38), (0, .ref (ad 0)), (1, .int a1)]) hx hb dX9_readPart_17 rfl hl (by decide) rfl (fun ls hl => ?_)
    refine lv_iload_n hx hb dX9_readPart_18 rfl (lv_at hl 0 rfl) ?_
    refine lv_bipush (v := 91) hx hb dX9_readPart_19 (by decide) ?_
    obtain ⟨r39, q40, h⟩ := ob1i h
    refine m_ci (m_rS (As := [.int (91 : Int32)]) (rest := [.int x38]) X w hl mi_X9_sign ml_X9_220 (c_X9_sign l D cy ad A Kc C0 N z V (91 : Int32) r39 q40) ⟨⟨rfl, rfl, (by show 0 + 1 ≤ F; omega), (by show 8 + (1 + 11) + 0 ≤ L; omega)⟩, Nat.le_of_ble_eq_true rfl, Nat.le_of_ble_eq_true rfl⟩ rfl rfl (Nat.le_of_ble_eq_true rfl) dX9_readPart_21) w (fun H locs w => ?_)
    refine lv_icmp_ne (tgt := 74) hx hb dX9_readPart_24 (by decide) (fun c41 => ?_) (fun c41 => ?_)
    · replace h := ifF h c41
      refine lv_iload_n hx hb dX9_readPart_74 rfl (lv_at hl 0 rfl) ?_
      refine lv_bipush (v := 50) hx hb dX9_readPart_75 (by decide) ?_
      refine lv_icmp_ne (tgt := 95) hx hb dX9_readPart_77 (by decide) (fun c42 => ?_) (fun c42 => ?_)
      · replace h := ifF h c42
        have g := B95 V x38 h
        rw [hG] at g
        exact g H locs ls w (lv_sub hl [1, 0] rfl)
      · replace h := ifT h c42
        refine lv_aload_n hx hb dX9_readPart_80 rfl (lv_at hl 1 rfl) ?_
        refine m_get X w 0 sm_n0 sm_k0 ci9 16 (by decide) (fvR sm_k0 rfl sm_p16) rfl fl_X9_57 dX9_readPart_81 ?_
        refine lv_aload_n hx hb dX9_readPart_84 rfl (lv_at hl 1 rfl) ?_
        refine m_get X w 0 sm_n0 sm_k0 ci9 19 (by decide) (fvI sm_k0 rfl) rfl fl_X9_178 dX9_readPart_85 ?_
        obtain ⟨g63, h⟩ := cki h
        refine m_iald X w 10 sm_n10 sm_k10 sm_z10 g63 dX9_readPart_88 ?_
        refine lv_sipush (v := 1000) hx hb dX9_readPart_89 (by decide) ?_
        refine lv_icmp_le (tgt := 111) hx hb dX9_readPart_92 (by decide) (fun c64 => ?_) (fun c64 => ?_)
        · replace h := ifT h c64
          have g := B111 V x38 h
          rw [hG] at g
          exact g H locs ls w (lv_sub hl [1, 0] rfl)
        · replace h := ifF h c64
          have g := B95 V x38 h
          rw [hG] at g
          exact g H locs ls w (lv_sub hl [1, 0] rfl)
    · replace h := ifT h c41
      refine lv_iload_n hx hb dX9_readPart_27 rfl (lv_at hl 2 rfl) ?_
      refine lv_bipush (v := 8) hx hb dX9_readPart_28 (by decide) ?_
      refine lv_icmp_ne (tgt := 37) hx hb dX9_readPart_30 (by decide) (fun c65 => ?_) (fun c65 => ?_)
      · replace h := ifF h c65
        have g := B37 V a1 h
        rw [hG] at g
        exact g H locs ls w (lv_sub hl [1, 2] rfl)
      · replace h := ifT h c65
        refine lv_aload_n hx hb dX9_readPart_33 rfl (lv_at hl 1 rfl) ?_
        obtain ⟨V80, q79, h⟩ := obvi h
        refine m_cv (m_rV (As := []) (rest := []) X w hl mi_X9_faults ml_X9_184 0 sm_n0 sm_k0 rfl (c_X9_faults l D cy ad A Kc C0 N z V  V80 q79) ⟨⟨rfl, rfl, (by show 1 + 1 ≤ F; omega), (by show 8 + (1 + 11) + 20 ≤ L; omega)⟩, Nat.le_of_ble_eq_true rfl, Nat.le_of_ble_eq_true rfl⟩ rfl rfl (Nat.le_of_ble_eq_true rfl) dX9_readPart_34) w (fun H locs w => ?_)
        have g := B37 V80 a1 h
        rw [hG] at g
        exact g H locs ls w (lv_sub hl [1, 2] rfl)
  · replace h := ifT h c36
    obtain rfl := Option.some.inj h
    exact m_rv X w hr hlocks dX9_readPart_7
def g_X9_readSum (N : Nat) : Nat → Nat → Vt → Int32 → Option Vt
  | 0, _, _, _ => none
  | d + 1, t, V, a => if t = 0 then f_X9_readSum N (g_X9_readSum N d) V a else if t = 1 then f_X9_readTerm N (g_X9_readSum N d) V a else f_X9_readPart N (g_X9_readSum N d) V a
theorem cg_X9_readSum (l : Launch) (D : va_G) (cy : Nat → ClassId) (ad : Nat → Nat) (A : Nat → Prop) (Kc : State → Prop) (C0 : Cx ad A Kc) (N z : Nat) : ∀ d : Nat, RH_X9_readSum l D cy ad A Kc z (g_X9_readSum N d) (3 + d) (63 + 60 * d) := by
  intro d
  induction d with
  | zero => exact ⟨(fun V a1 V' h => by rw [g_X9_readSum] at h; cases h), (fun V a1 V' h => by rw [g_X9_readSum] at h; cases h), (fun V a1 V' h => by rw [g_X9_readSum] at h; cases h)⟩
  | succ d ih =>
    exact ⟨(fun V a1 V' h => c_X9_readSum l D cy ad A Kc C0 N (g_X9_readSum N d) z (3 + d) (63 + 60 * d) (3 + (d + 1)) (63 + 60 * (d + 1)) (by omega) (by omega) (by omega) (by omega) ih V a1 V' (by rw [g_X9_readSum] at h; exact (ifT h rfl))), (fun V a1 V' h => c_X9_readTerm l D cy ad A Kc C0 N (g_X9_readSum N d) z (3 + d) (63 + 60 * d) (3 + (d + 1)) (63 + 60 * (d + 1)) (by omega) (by omega) (by omega) (by omega) ih V a1 V' (by rw [g_X9_readSum] at h; exact (ifT (ifF h (by decide)) rfl))), (fun V a1 V' h => c_X9_readPart l D cy ad A Kc C0 N (g_X9_readSum N d) z (3 + d) (63 + 60 * d) (3 + (d + 1)) (63 + 60 * (d + 1)) (by omega) (by omega) (by omega) (by omega) ih V a1 V' (by rw [g_X9_readSum] at h; exact (ifF (ifF h (by decide)) (by decide))))⟩
abbrev RH_X9_sumOf (l : Launch) (D : va_G) (cy : Nat → ClassId) (ad : Nat → Nat) (A : Nat → Prop) (Kc : State → Prop) (z : Nat) (KR : Nat → Vt → Int32 → Option (Int64 × Vt)) (F L : Nat) : Prop := (∀ (V : Vt) (a1 : Int32) (r : Int64) (V' : Vt), KR 0 V a1 = some (r, V') → Met l yX9_sumOf (mw yX9_sumOf cX9_sumOf 7 (some .long)) { frames := F, cells := 0, slots := 0, locals := L } (PreM D cy ad Kc (SM z) V [.ref (ad 0), .int a1]) (QL D cy ad A r (SM z) V') 0 0 A) ∧ (∀ (V : Vt) (a1 : Int32) (r : Int64) (V' : Vt), KR 1 V a1 = some (r, V') → Met l yX9_termOf (mw yX9_termOf cX9_termOf 7 (some .long)) { frames := F, cells := 0, slots := 0, locals := L } (PreM D cy ad Kc (SM z) V [.ref (ad 0), .int a1]) (QL D cy ad A r (SM z) V') 0 0 A) ∧ (∀ (V : Vt) (a1 : Int32) (r : Int64) (V' : Vt), KR 2 V a1 = some (r, V') → Met l yX9_partOf (mw yX9_partOf cX9_partOf 4 (some .long)) { frames := F, cells := 0, slots := 0, locals := L } (PreM D cy ad Kc (SM z) V [.ref (ad 0), .int a1]) (QL D cy ad A r (SM z) V') 0 0 A)
def f_X9_sumOf_95 (N : Nat) (KR : Nat → Vt → Int32 → Option (Int64 × Vt)) (K6 : Vt → Int32 → Int64 → Option (Int64 × Vt)) (V : Vt) (v1 : Int32) (s0 : Int64) : Option (Int64 × Vt) := ob (f_X9_bounded N V s0 v1) (fun r41 V43 => K6 V43 v1 r41)
def f_X9_sumOf_59 (N : Nat) (KR : Nat → Vt → Int32 → Option (Int64 × Vt)) (K6 : Vt → Int32 → Int64 → Option (Int64 × Vt)) (V : Vt) (v1 : Int32) (v2 : Int64) (s0 : Int32) : Option (Int64 × Vt) := bd (sF V 0 22 ((V.1 0 22) + (1 : Int32))) (fun V36 => ob (KR 1 V36 v1) (fun r37 V39 => if s0 = 0 then f_X9_sumOf_95 N KR K6 V39 v1 (v2 - r37) else f_X9_sumOf_95 N KR K6 V39 v1 (v2 + r37)))
def f_X9_sumOf_38 (N : Nat) (KR : Nat → Vt → Int32 → Option (Int64 × Vt)) (K6 : Vt → Int32 → Int64 → Option (Int64 × Vt)) (V : Vt) (v1 : Int32) (v2 : Int64) : Option (Int64 × Vt) := ob1 (f_X9_codeAt N V (V.1 0 22)) (fun r31 => ob1 (f_X9_sign N (43 : Int32)) (fun r33 => if r31 = r33 then f_X9_sumOf_59 N KR K6 V v1 v2 (1 : Int32) else f_X9_sumOf_59 N KR K6 V v1 v2 (0 : Int32)))
def f_X9_sumOf_6 (N : Nat) (KR : Nat → Vt → Int32 → Option (Int64 × Vt)) : Nat → Vt → Int32 → Int64 → Option (Int64 × Vt)
  | 0, _, _, _ => none
  | n + 1, V, v1, v2 => ob1 (f_X9_codeAt N V (V.1 0 22)) (fun r26 => ob1 (f_X9_sign N (43 : Int32)) (fun r28 => if r26 = r28 then f_X9_sumOf_38 N KR (f_X9_sumOf_6 N KR n) V v1 v2 else ob1 (f_X9_codeAt N V (V.1 0 22)) (fun r44 => ob1 (f_X9_sign N (45 : Int32)) (fun r46 => if r44 = r46 then f_X9_sumOf_38 N KR (f_X9_sumOf_6 N KR n) V v1 v2 else some (v2, V)))))
def f_X9_sumOf (N : Nat) (KR : Nat → Vt → Int32 → Option (Int64 × Vt)) (V : Vt) (a1 : Int32) : Option (Int64 × Vt) := ob (KR 1 V a1) (fun r23 V25 => f_X9_sumOf_6 N KR N V25 a1 r23)
set_option maxHeartbeats 4000000 in
set_option maxRecDepth 100000 in
theorem c_X9_sumOf (l : Launch) (D : va_G) (cy : Nat → ClassId) (ad : Nat → Nat) (A : Nat → Prop) (Kc : State → Prop) (C0 : Cx ad A Kc) (N : Nat) (KR : Nat → Vt → Int32 → Option (Int64 × Vt)) (z Fk Lk F L : Nat) (hF : Fk + 1 ≤ F) (hL : Lk + 60 ≤ L) (hF0 : 3 ≤ F) (hL0 : 65 ≤ L) (hKR : RH_X9_sumOf l D cy ad A Kc z KR Fk Lk) (V : Vt) (a1 : Int32) (r : Int64) (V' : Vt) (h : f_X9_sumOf N KR V a1 = some (r, V')) : Met l yX9_sumOf (mw yX9_sumOf cX9_sumOf 7 (some .long)) { frames := F, cells := 0, slots := 0, locals := L } (PreM D cy ad Kc (SM z) V [.ref (ad 0), .int a1]) (QL D cy ad A r (SM z) V') 0 0 A := by
  refine ct_go C0 (own := RX9) rfl (by decide) rfl ?_
  intro p e s m below meth c ls H locs X hr hlocks hnm hl w
  have hx := X.1.1
  have hb := X.1.2.1
  have hown := X.2.1
  have hts := X.2.2.1
  have hl : lv_has ls 7 [(0, .ref (ad 0)), (1, .int a1)] := hl
  obtain ⟨G, hG⟩ : ∃ G : Nat → Vt → List (Nat × Value) → List Value → Prop, G = fun pc V lv st => ∀ (H : Heap) (locs : List Loc) (ls : Array Slot), Wd D cy ad A s.heap (SM z) V H locs → lv_has ls 7 lv → W p l e { frames := F, cells := 0, slots := 0, locals := L } s m ([.ref (ad 0), .int a1] : List Value).toArray below meth c H locs 0 0 (MQ below (QL D cy ad A r (SM z) V') ([.ref (ad 0), .int a1] : List Value).toArray s 0 0 A) (F0 m pc ls st) := ⟨_, rfl⟩
  have L6 : ∀ (n6 : Nat) (V : Vt) (v1 : Int32) (v2 : Int64), f_X9_sumOf_6 N KR n6 V v1 v2 = some (r, V') → G 6 V [(0, .ref (ad 0)), (1, .int v1), (2, .long v2)] [] := by
    intro n6
    induction n6 with
    | zero => intro V v1 v2 h; rw [f_X9_sumOf_6] at h; cases h
    | succ n6 ih6 =>
      have B95 : ∀ (V : Vt) (v1 : Int32) (s0 : Int64), f_X9_sumOf_95 N KR (f_X9_sumOf_6 N KR n6) V v1 s0 = some (r, V') → G 95 V [(0, .ref (ad 0)), (1, .int v1)] [.long s0, .ref (ad 0)] := by
        intro V v1 s0 h
        rw [hG]
        intro H locs ls w hl
        rw [f_X9_sumOf_95] at h
        refine lv_iload_n hx hb dX9_sumOf_95 rfl (lv_at hl 1 rfl) ?_
        obtain ⟨r41, V43, q42, h⟩ := obi h
        refine m_cl (m_rV (As := [.long s0, .int v1]) (rest := []) X w hl mi_X9_bounded ml_X9_275 0 sm_n0 sm_k0 rfl (c_X9_bounded l D cy ad A Kc C0 N z V s0 v1 r41 V43 q42) ⟨⟨rfl, rfl, (by show 0 + 1 ≤ F; omega), (by show 8 + (4 + 11) + 0 ≤ L; omega)⟩, Nat.le_of_ble_eq_true rfl, Nat.le_of_ble_eq_true rfl⟩ rfl rfl (Nat.le_of_ble_eq_true rfl) dX9_sumOf_96) w (fun H locs w => ?_)
        refine lv_lstore_n (lv' := [(2, .long r41), (0, .ref (ad 0)), (1, .int v1)]) hx hb dX9_sumOf_99 rfl hl (by decide) rfl (fun ls hl => ?_)
        refine lv_goto (tgt := 6) hx hb dX9_sumOf_100 (by decide) ?_
        have g := ih6 V43 v1 r41 h
        rw [hG] at g
        exact g H locs ls w (lv_sub hl [1, 2, 0] rfl)
      have B59 : ∀ (V : Vt) (v1 : Int32) (v2 : Int64) (s0 : Int32), f_X9_sumOf_59 N KR (f_X9_sumOf_6 N KR n6) V v1 v2 s0 = some (r, V') → G 59 V [(0, .ref (ad 0)), (1, .int v1), (2, .long v2)] [.int s0] := by
        intro V v1 v2 s0 h
        rw [hG]
        intro H locs ls w hl
        rw [f_X9_sumOf_59] at h
        refine lv_istore (lv' := [(4, .int s0), (0, .ref (ad 0)), (1, .int v1), (2, .long v2)]) hx hb dX9_sumOf_59 hl (by decide) rfl (fun ls hl => ?_)
        refine lv_aload_n hx hb dX9_sumOf_61 rfl (lv_at hl 1 rfl) ?_
        refine lv_dup hx hb dX9_sumOf_62 rfl ?_
        refine m_get X w 0 sm_n0 sm_k0 ci9 22 (by decide) (fvI sm_k0 rfl) rfl fl_X9_258 dX9_sumOf_63 ?_
        refine lv_iconst (v := 1) hx hb dX9_sumOf_66 (by decide) ?_
        refine lv_iadd hx hb dX9_sumOf_67 ?_
        refine m_put X w 0 sm_n0 sm_k0 ci9 22 (by decide) rfl rfl rfl rfl rfl fl_X9_258 dX9_sumOf_68 (fun V36 H locs eV36 w => ?_)
        replace h := bdi h _ eV36
        refine lv_aload_n hx hb dX9_sumOf_71 rfl (lv_at hl 1 rfl) ?_
        refine lv_iload_n hx hb dX9_sumOf_72 rfl (lv_at hl 2 rfl) ?_
        obtain ⟨r37, V39, q38, h⟩ := obi h
        refine m_cl (m_rV (As := [.int v1]) (rest := []) X w hl mi_X9_termOf ml_X9_271 0 sm_n0 sm_k0 rfl (hKR.2.1 V36 v1 r37 V39 q38) ⟨⟨rfl, rfl, hF, (by show 8 + (7 + 11) + Lk ≤ L; omega)⟩, Nat.le_of_ble_eq_true rfl, Nat.le_of_ble_eq_true rfl⟩ rfl rfl (Nat.le_of_ble_eq_true rfl) dX9_sumOf_73) w (fun H locs w => ?_)
        refine lv_lstore (lv' := [(5, .long r37), (4, .int s0), (0, .ref (ad 0)), (1, .int v1), (2, .long v2)]) hx hb dX9_sumOf_76 hl (by decide) rfl (fun ls hl => ?_)
        refine lv_aload_n hx hb dX9_sumOf_78 rfl (lv_at hl 2 rfl) ?_
        refine lv_iload hx hb dX9_sumOf_79 (lv_at hl 1 rfl) ?_
        refine lv_if_eq (tgt := 91) hx hb dX9_sumOf_81 (by decide) (fun c40 => ?_) (fun c40 => ?_)
        · replace h := ifT h c40
          refine lv_lload_n hx hb dX9_sumOf_91 rfl (lv_at hl 4 rfl) ?_
          refine lv_lload hx hb dX9_sumOf_92 (lv_at hl 0 rfl) ?_
          refine lv_lsub hx hb dX9_sumOf_94 ?_
          have g := B95 V39 v1 (v2 - r37) h
          rw [hG] at g
          exact g H locs ls w (lv_sub hl [2, 3] rfl)
        · replace h := ifF h c40
          refine lv_lload_n hx hb dX9_sumOf_84 rfl (lv_at hl 4 rfl) ?_
          refine lv_lload hx hb dX9_sumOf_85 (lv_at hl 0 rfl) ?_
          refine lv_ladd hx hb dX9_sumOf_87 ?_
          refine lv_goto (tgt := 95) hx hb dX9_sumOf_88 (by decide) ?_
          have g := B95 V39 v1 (v2 + r37) h
          rw [hG] at g
          exact g H locs ls w (lv_sub hl [2, 3] rfl)
      have B38 : ∀ (V : Vt) (v1 : Int32) (v2 : Int64), f_X9_sumOf_38 N KR (f_X9_sumOf_6 N KR n6) V v1 v2 = some (r, V') → G 38 V [(0, .ref (ad 0)), (1, .int v1), (2, .long v2)] [] := by
        intro V v1 v2 h
        rw [hG]
        intro H locs ls w hl
        rw [f_X9_sumOf_38] at h
        refine lv_aload_n hx hb dX9_sumOf_38 rfl (lv_at hl 0 rfl) ?_
        refine lv_aload_n hx hb dX9_sumOf_39 rfl (lv_at hl 0 rfl) ?_
        refine m_get X w 0 sm_n0 sm_k0 ci9 22 (by decide) (fvI sm_k0 rfl) rfl fl_X9_258 dX9_sumOf_40 ?_
        obtain ⟨r31, q32, h⟩ := ob1i h
        refine m_ci (m_rV (As := [.int (V.1 0 22)]) (rest := []) X w hl mi_X9_codeAt ml_X9_261 0 sm_n0 sm_k0 rfl (c_X9_codeAt l D cy ad A Kc C0 N z V (V.1 0 22) r31 q32) ⟨⟨rfl, rfl, (by show 0 + 1 ≤ F; omega), (by show 8 + (2 + 11) + 0 ≤ L; omega)⟩, Nat.le_of_ble_eq_true rfl, Nat.le_of_ble_eq_true rfl⟩ rfl rfl (Nat.le_of_ble_eq_true rfl) dX9_sumOf_43) w (fun H locs w => ?_)
        refine lv_bipush (v := 43) hx hb dX9_sumOf_46 (by decide) ?_
        obtain ⟨r33, q34, h⟩ := ob1i h
        refine m_ci (m_rS (As := [.int (43 : Int32)]) (rest := [.int r31]) X w hl mi_X9_sign ml_X9_220 (c_X9_sign l D cy ad A Kc C0 N z V (43 : Int32) r33 q34) ⟨⟨rfl, rfl, (by show 0 + 1 ≤ F; omega), (by show 8 + (1 + 11) + 0 ≤ L; omega)⟩, Nat.le_of_ble_eq_true rfl, Nat.le_of_ble_eq_true rfl⟩ rfl rfl (Nat.le_of_ble_eq_true rfl) dX9_sumOf_48) w (fun H locs w => ?_)
        refine lv_icmp_ne (tgt := 58) hx hb dX9_sumOf_51 (by decide) (fun c35 => ?_) (fun c35 => ?_)
        · replace h := ifF h c35
          refine lv_iconst (v := 0) hx hb dX9_sumOf_58 (by decide) ?_
          have g := B59 V v1 v2 (0 : Int32) h
          rw [hG] at g
          exact g H locs ls w (lv_sub hl [0, 1, 2] rfl)
        · replace h := ifT h c35
          refine lv_iconst (v := 1) hx hb dX9_sumOf_54 (by decide) ?_
          refine lv_goto (tgt := 59) hx hb dX9_sumOf_55 (by decide) ?_
          have g := B59 V v1 v2 (1 : Int32) h
          rw [hG] at g
          exact g H locs ls w (lv_sub hl [0, 1, 2] rfl)
      intro V v1 v2 h
      rw [hG]
      intro H locs ls w hl
      rw [f_X9_sumOf_6] at h
      refine lv_aload_n hx hb dX9_sumOf_6 rfl (lv_at hl 0 rfl) ?_
      refine lv_aload_n hx hb dX9_sumOf_7 rfl (lv_at hl 0 rfl) ?_
      refine m_get X w 0 sm_n0 sm_k0 ci9 22 (by decide) (fvI sm_k0 rfl) rfl fl_X9_258 dX9_sumOf_8 ?_
      obtain ⟨r26, q27, h⟩ := ob1i h
      refine m_ci (m_rV (As := [.int (V.1 0 22)]) (rest := []) X w hl mi_X9_codeAt ml_X9_261 0 sm_n0 sm_k0 rfl (c_X9_codeAt l D cy ad A Kc C0 N z V (V.1 0 22) r26 q27) ⟨⟨rfl, rfl, (by show 0 + 1 ≤ F; omega), (by show 8 + (2 + 11) + 0 ≤ L; omega)⟩, Nat.le_of_ble_eq_true rfl, Nat.le_of_ble_eq_true rfl⟩ rfl rfl (Nat.le_of_ble_eq_true rfl) dX9_sumOf_11) w (fun H locs w => ?_)
      refine lv_bipush (v := 43) hx hb dX9_sumOf_14 (by decide) ?_
      obtain ⟨r28, q29, h⟩ := ob1i h
      refine m_ci (m_rS (As := [.int (43 : Int32)]) (rest := [.int r26]) X w hl mi_X9_sign ml_X9_220 (c_X9_sign l D cy ad A Kc C0 N z V (43 : Int32) r28 q29) ⟨⟨rfl, rfl, (by show 0 + 1 ≤ F; omega), (by show 8 + (1 + 11) + 0 ≤ L; omega)⟩, Nat.le_of_ble_eq_true rfl, Nat.le_of_ble_eq_true rfl⟩ rfl rfl (Nat.le_of_ble_eq_true rfl) dX9_sumOf_16) w (fun H locs w => ?_)
      refine lv_icmp_eq (tgt := 38) hx hb dX9_sumOf_19 (by decide) (fun c30 => ?_) (fun c30 => ?_)
      · replace h := ifT h c30
        have g := B38 V v1 v2 h
        rw [hG] at g
        exact g H locs ls w (lv_sub hl [0, 1, 2] rfl)
      · replace h := ifF h c30
        refine lv_aload_n hx hb dX9_sumOf_22 rfl (lv_at hl 0 rfl) ?_
        refine lv_aload_n hx hb dX9_sumOf_23 rfl (lv_at hl 0 rfl) ?_
        refine m_get X w 0 sm_n0 sm_k0 ci9 22 (by decide) (fvI sm_k0 rfl) rfl fl_X9_258 dX9_sumOf_24 ?_
        obtain ⟨r44, q45, h⟩ := ob1i h
        refine m_ci (m_rV (As := [.int (V.1 0 22)]) (rest := []) X w hl mi_X9_codeAt ml_X9_261 0 sm_n0 sm_k0 rfl (c_X9_codeAt l D cy ad A Kc C0 N z V (V.1 0 22) r44 q45) ⟨⟨rfl, rfl, (by show 0 + 1 ≤ F; omega), (by show 8 + (2 + 11) + 0 ≤ L; omega)⟩, Nat.le_of_ble_eq_true rfl, Nat.le_of_ble_eq_true rfl⟩ rfl rfl (Nat.le_of_ble_eq_true rfl) dX9_sumOf_27) w (fun H locs w => ?_)
        refine lv_bipush (v := 45) hx hb dX9_sumOf_30 (by decide) ?_
        obtain ⟨r46, q47, h⟩ := ob1i h
        refine m_ci (m_rS (As := [.int (45 : Int32)]) (rest := [.int r44]) X w hl mi_X9_sign ml_X9_220 (c_X9_sign l D cy ad A Kc C0 N z V (45 : Int32) r46 q47) ⟨⟨rfl, rfl, (by show 0 + 1 ≤ F; omega), (by show 8 + (1 + 11) + 0 ≤ L; omega)⟩, Nat.le_of_ble_eq_true rfl, Nat.le_of_ble_eq_true rfl⟩ rfl rfl (Nat.le_of_ble_eq_true rfl) dX9_sumOf_32) w (fun H locs w => ?_)
        refine lv_icmp_ne (tgt := 103) hx hb dX9_sumOf_35 (by decide) (fun c48 => ?_) (fun c48 => ?_)
        · replace h := ifF h c48
          refine lv_lload_n hx hb dX9_sumOf_103 rfl (lv_at hl 2 rfl) ?_
          obtain ⟨rfl, rfl⟩ := reti h
          exact m_rl X w hr hlocks dX9_sumOf_104
        · replace h := ifT h c48
          have g := B38 V v1 v2 h
          rw [hG] at g
          exact g H locs ls w (lv_sub hl [0, 1, 2] rfl)
  rw [f_X9_sumOf] at h
  refine lv_aload_n hx hb dX9_sumOf_0 rfl (lv_at hl 0 rfl) ?_
  refine lv_iload_n hx hb dX9_sumOf_1 rfl (lv_at hl 1 rfl) ?_
  obtain ⟨r23, V25, q24, h⟩ := obi h
  refine m_cl (m_rV (As := [.int a1]) (rest := []) X w hl mi_X9_termOf ml_X9_271 0 sm_n0 sm_k0 rfl (hKR.2.1 V a1 r23 V25 q24) ⟨⟨rfl, rfl, hF, (by show 8 + (7 + 11) + Lk ≤ L; omega)⟩, Nat.le_of_ble_eq_true rfl, Nat.le_of_ble_eq_true rfl⟩ rfl rfl (Nat.le_of_ble_eq_true rfl) dX9_sumOf_2) w (fun H locs w => ?_)
  refine lv_lstore_n (lv' := [(2, .long r23), (0, .ref (ad 0)), (1, .int a1)]) hx hb dX9_sumOf_5 rfl hl (by decide) rfl (fun ls hl => ?_)
  have g := L6 N V25 a1 r23 h
  rw [hG] at g
  exact g H locs ls w (lv_sub hl [1, 2, 0] rfl)
def f_X9_termOf_160 (N : Nat) (KR : Nat → Vt → Int32 → Option (Int64 × Vt)) (K6 : Vt → Int32 → Int64 → Option (Int64 × Vt)) (V : Vt) (v1 : Int32) (s0 : Int64) : Option (Int64 × Vt) := ob (f_X9_bounded N V s0 v1) (fun r58 V60 => K6 V60 v1 r58)
def f_X9_termOf_121 (N : Nat) (KR : Nat → Vt → Int32 → Option (Int64 × Vt)) (K6 : Vt → Int32 → Int64 → Option (Int64 × Vt)) (V : Vt) (v1 : Int32) (v2 : Int64) (v4 : Int32) (v5 : Int64) : Option (Int64 × Vt) := ob1 (f_X9_sign N (42 : Int32)) (fun r51 => if v4 = r51 then f_X9_termOf_160 N KR K6 V v1 (v2 * v5) else ob1 (f_X9_sign N (47 : Int32)) (fun r54 => if v4 = r54 then czl v5 (f_X9_termOf_160 N KR K6 V v1 (v2 / v5)) else czl v5 (f_X9_termOf_160 N KR K6 V v1 (v2 - v2 / v5 * v5))))
def f_X9_termOf_115 (N : Nat) (KR : Nat → Vt → Int32 → Option (Int64 × Vt)) (K6 : Vt → Int32 → Int64 → Option (Int64 × Vt)) (V : Vt) (v1 : Int32) (v2 : Int64) (v4 : Int32) (s0 : Int32) : Option (Int64 × Vt) := cb s0 (bd (sF V 0 24 s0) (fun V65 => f_X9_termOf_121 N KR K6 V65 v1 v2 v4 (1 : Int64)))
def f_X9_termOf_110 (N : Nat) (KR : Nat → Vt → Int32 → Option (Int64 × Vt)) (K6 : Vt → Int32 → Int64 → Option (Int64 × Vt)) (V : Vt) (v1 : Int32) (v2 : Int64) (v4 : Int32) : Option (Int64 × Vt) := f_X9_termOf_115 N KR K6 V v1 v2 v4 (1 : Int32)
def f_X9_termOf_54 (N : Nat) (KR : Nat → Vt → Int32 → Option (Int64 × Vt)) (K6 : Vt → Int32 → Int64 → Option (Int64 × Vt)) (V : Vt) (v1 : Int32) (v2 : Int64) : Option (Int64 × Vt) := ob1 (f_X9_codeAt N V (V.1 0 22)) (fun r42 => bd (sF V 0 22 ((V.1 0 22) + (1 : Int32))) (fun V44 => ob (KR 2 V44 v1) (fun r45 V47 => ob1 (f_X9_sign N (42 : Int32)) (fun r48 => if r42 = r48 then f_X9_termOf_121 N KR K6 V47 v1 v2 r42 r45 else if (lg_cmp r45 (0 : Int64)) = 0 then if (V47.1 0 24) = 0 then if v1 = 0 then f_X9_termOf_115 N KR K6 V47 v1 v2 r42 (0 : Int32) else f_X9_termOf_110 N KR K6 V47 v1 v2 r42 else f_X9_termOf_110 N KR K6 V47 v1 v2 r42 else f_X9_termOf_121 N KR K6 V47 v1 v2 r42 r45))))
def f_X9_termOf_6 (N : Nat) (KR : Nat → Vt → Int32 → Option (Int64 × Vt)) : Nat → Vt → Int32 → Int64 → Option (Int64 × Vt)
  | 0, _, _, _ => none
  | n + 1, V, v1, v2 => ob1 (f_X9_codeAt N V (V.1 0 22)) (fun r37 => ob1 (f_X9_sign N (42 : Int32)) (fun r39 => if r37 = r39 then f_X9_termOf_54 N KR (f_X9_termOf_6 N KR n) V v1 v2 else ob1 (f_X9_codeAt N V (V.1 0 22)) (fun r67 => ob1 (f_X9_sign N (47 : Int32)) (fun r69 => if r67 = r69 then f_X9_termOf_54 N KR (f_X9_termOf_6 N KR n) V v1 v2 else ob1 (f_X9_codeAt N V (V.1 0 22)) (fun r72 => ob1 (f_X9_sign N (37 : Int32)) (fun r74 => if r72 = r74 then f_X9_termOf_54 N KR (f_X9_termOf_6 N KR n) V v1 v2 else some (v2, V)))))))
def f_X9_termOf (N : Nat) (KR : Nat → Vt → Int32 → Option (Int64 × Vt)) (V : Vt) (a1 : Int32) : Option (Int64 × Vt) := ob (KR 2 V a1) (fun r34 V36 => f_X9_termOf_6 N KR N V36 a1 r34)
set_option maxHeartbeats 4000000 in
set_option maxRecDepth 100000 in
theorem c_X9_termOf (l : Launch) (D : va_G) (cy : Nat → ClassId) (ad : Nat → Nat) (A : Nat → Prop) (Kc : State → Prop) (C0 : Cx ad A Kc) (N : Nat) (KR : Nat → Vt → Int32 → Option (Int64 × Vt)) (z Fk Lk F L : Nat) (hF : Fk + 1 ≤ F) (hL : Lk + 60 ≤ L) (hF0 : 3 ≤ F) (hL0 : 65 ≤ L) (hKR : RH_X9_sumOf l D cy ad A Kc z KR Fk Lk) (V : Vt) (a1 : Int32) (r : Int64) (V' : Vt) (h : f_X9_termOf N KR V a1 = some (r, V')) : Met l yX9_termOf (mw yX9_termOf cX9_termOf 7 (some .long)) { frames := F, cells := 0, slots := 0, locals := L } (PreM D cy ad Kc (SM z) V [.ref (ad 0), .int a1]) (QL D cy ad A r (SM z) V') 0 0 A := by
  refine ct_go C0 (own := RX9) rfl (by decide) rfl ?_
  intro p e s m below meth c ls H locs X hr hlocks hnm hl w
  have hx := X.1.1
  have hb := X.1.2.1
  have hown := X.2.1
  have hts := X.2.2.1
  have hl : lv_has ls 7 [(0, .ref (ad 0)), (1, .int a1)] := hl
  obtain ⟨G, hG⟩ : ∃ G : Nat → Vt → List (Nat × Value) → List Value → Prop, G = fun pc V lv st => ∀ (H : Heap) (locs : List Loc) (ls : Array Slot), Wd D cy ad A s.heap (SM z) V H locs → lv_has ls 7 lv → W p l e { frames := F, cells := 0, slots := 0, locals := L } s m ([.ref (ad 0), .int a1] : List Value).toArray below meth c H locs 0 0 (MQ below (QL D cy ad A r (SM z) V') ([.ref (ad 0), .int a1] : List Value).toArray s 0 0 A) (F0 m pc ls st) := ⟨_, rfl⟩
  have L6 : ∀ (n6 : Nat) (V : Vt) (v1 : Int32) (v2 : Int64), f_X9_termOf_6 N KR n6 V v1 v2 = some (r, V') → G 6 V [(0, .ref (ad 0)), (1, .int v1), (2, .long v2)] [] := by
    intro n6
    induction n6 with
    | zero => intro V v1 v2 h; rw [f_X9_termOf_6] at h; cases h
    | succ n6 ih6 =>
      have B160 : ∀ (V : Vt) (v1 : Int32) (s0 : Int64), f_X9_termOf_160 N KR (f_X9_termOf_6 N KR n6) V v1 s0 = some (r, V') → G 160 V [(0, .ref (ad 0)), (1, .int v1)] [.long s0, .ref (ad 0)] := by
        intro V v1 s0 h
        rw [hG]
        intro H locs ls w hl
        rw [f_X9_termOf_160] at h
        refine lv_iload_n hx hb dX9_termOf_160 rfl (lv_at hl 1 rfl) ?_
        obtain ⟨r58, V60, q59, h⟩ := obi h
        refine m_cl (m_rV (As := [.long s0, .int v1]) (rest := []) X w hl mi_X9_bounded ml_X9_275 0 sm_n0 sm_k0 rfl (c_X9_bounded l D cy ad A Kc C0 N z V s0 v1 r58 V60 q59) ⟨⟨rfl, rfl, (by show 0 + 1 ≤ F; omega), (by show 8 + (4 + 11) + 0 ≤ L; omega)⟩, Nat.le_of_ble_eq_true rfl, Nat.le_of_ble_eq_true rfl⟩ rfl rfl (Nat.le_of_ble_eq_true rfl) dX9_termOf_161) w (fun H locs w => ?_)
        refine lv_lstore_n (lv' := [(2, .long r58), (0, .ref (ad 0)), (1, .int v1)]) hx hb dX9_termOf_164 rfl hl (by decide) rfl (fun ls hl => ?_)
        refine lv_goto (tgt := 6) hx hb dX9_termOf_165 (by decide) ?_
        have g := ih6 V60 v1 r58 h
        rw [hG] at g
        exact g H locs ls w (lv_sub hl [1, 2, 0] rfl)
      have B121 : ∀ (V : Vt) (v1 : Int32) (v2 : Int64) (v4 : Int32) (v5 : Int64), f_X9_termOf_121 N KR (f_X9_termOf_6 N KR n6) V v1 v2 v4 v5 = some (r, V') → G 121 V [(0, .ref (ad 0)), (1, .int v1), (2, .long v2), (4, .int v4), (5, .long v5)] [] := by
        intro V v1 v2 v4 v5 h
        rw [hG]
        intro H locs ls w hl
        rw [f_X9_termOf_121] at h
        refine lv_aload_n hx hb dX9_termOf_121 rfl (lv_at hl 0 rfl) ?_
        refine lv_iload hx hb dX9_termOf_122 (lv_at hl 3 rfl) ?_
        refine lv_bipush (v := 42) hx hb dX9_termOf_124 (by decide) ?_
        obtain ⟨r51, q52, h⟩ := ob1i h
        refine m_ci (m_rS (As := [.int (42 : Int32)]) (rest := [.int v4, .ref (ad 0)]) X w hl mi_X9_sign ml_X9_220 (c_X9_sign l D cy ad A Kc C0 N z V (42 : Int32) r51 q52) ⟨⟨rfl, rfl, (by show 0 + 1 ≤ F; omega), (by show 8 + (1 + 11) + 0 ≤ L; omega)⟩, Nat.le_of_ble_eq_true rfl, Nat.le_of_ble_eq_true rfl⟩ rfl rfl (Nat.le_of_ble_eq_true rfl) dX9_termOf_126) w (fun H locs w => ?_)
        refine lv_icmp_ne (tgt := 139) hx hb dX9_termOf_129 (by decide) (fun c53 => ?_) (fun c53 => ?_)
        · replace h := ifF h c53
          refine lv_iload hx hb dX9_termOf_139 (lv_at hl 3 rfl) ?_
          refine lv_bipush (v := 47) hx hb dX9_termOf_141 (by decide) ?_
          obtain ⟨r54, q55, h⟩ := ob1i h
          refine m_ci (m_rS (As := [.int (47 : Int32)]) (rest := [.int v4, .ref (ad 0)]) X w hl mi_X9_sign ml_X9_220 (c_X9_sign l D cy ad A Kc C0 N z V (47 : Int32) r54 q55) ⟨⟨rfl, rfl, (by show 0 + 1 ≤ F; omega), (by show 8 + (1 + 11) + 0 ≤ L; omega)⟩, Nat.le_of_ble_eq_true rfl, Nat.le_of_ble_eq_true rfl⟩ rfl rfl (Nat.le_of_ble_eq_true rfl) dX9_termOf_143) w (fun H locs w => ?_)
          refine lv_icmp_ne (tgt := 156) hx hb dX9_termOf_146 (by decide) (fun c56 => ?_) (fun c56 => ?_)
          · replace h := ifF h c56
            refine lv_lload_n hx hb dX9_termOf_156 rfl (lv_at hl 2 rfl) ?_
            refine lv_lload hx hb dX9_termOf_157 (lv_at hl 4 rfl) ?_
            obtain ⟨g57, h⟩ := czli h
            refine lv_lrem hx hb dX9_termOf_159 g57 ?_
            have g := B160 V v1 (v2 - v2 / v5 * v5) h
            rw [hG] at g
            exact g H locs ls w (lv_sub hl [0, 1] rfl)
          · replace h := ifT h c56
            refine lv_lload_n hx hb dX9_termOf_149 rfl (lv_at hl 2 rfl) ?_
            refine lv_lload hx hb dX9_termOf_150 (lv_at hl 4 rfl) ?_
            obtain ⟨g61, h⟩ := czli h
            refine lv_ldiv hx hb dX9_termOf_152 g61 ?_
            refine lv_goto (tgt := 160) hx hb dX9_termOf_153 (by decide) ?_
            have g := B160 V v1 (v2 / v5) h
            rw [hG] at g
            exact g H locs ls w (lv_sub hl [0, 1] rfl)
        · replace h := ifT h c53
          refine lv_lload_n hx hb dX9_termOf_132 rfl (lv_at hl 2 rfl) ?_
          refine lv_lload hx hb dX9_termOf_133 (lv_at hl 4 rfl) ?_
          refine lv_lmul hx hb dX9_termOf_135 ?_
          refine lv_goto (tgt := 160) hx hb dX9_termOf_136 (by decide) ?_
          have g := B160 V v1 (v2 * v5) h
          rw [hG] at g
          exact g H locs ls w (lv_sub hl [0, 1] rfl)
      have B115 : ∀ (V : Vt) (v1 : Int32) (v2 : Int64) (v4 : Int32) (s0 : Int32), f_X9_termOf_115 N KR (f_X9_termOf_6 N KR n6) V v1 v2 v4 s0 = some (r, V') → G 115 V [(0, .ref (ad 0)), (1, .int v1), (2, .long v2), (4, .int v4)] [.int s0, .ref (ad 0)] := by
        intro V v1 v2 v4 s0 h
        rw [hG]
        intro H locs ls w hl
        rw [f_X9_termOf_115] at h
        obtain ⟨g64, h⟩ := cbi h
        refine m_put X w 0 sm_n0 sm_k0 ci9 24 (by decide) rfl rfl rfl (nb01 g64) (fb01 g64) fl_X9_268 dX9_termOf_115 (fun V65 H locs eV65 w => ?_)
        replace h := bdi h _ eV65
        refine lv_lconst (v := 1) hx hb dX9_termOf_118 (by decide) ?_
        refine lv_lstore (lv' := [(5, .long (1 : Int64)), (0, .ref (ad 0)), (1, .int v1), (2, .long v2), (4, .int v4)]) hx hb dX9_termOf_119 hl (by decide) rfl (fun ls hl => ?_)
        have g := B121 V65 v1 v2 v4 (1 : Int64) h
        rw [hG] at g
        exact g H locs ls w (lv_sub hl [1, 2, 3, 4, 0] rfl)
      have B110 : ∀ (V : Vt) (v1 : Int32) (v2 : Int64) (v4 : Int32), f_X9_termOf_110 N KR (f_X9_termOf_6 N KR n6) V v1 v2 v4 = some (r, V') → G 110 V [(0, .ref (ad 0)), (1, .int v1), (2, .long v2), (4, .int v4)] [.ref (ad 0)] := by
        intro V v1 v2 v4 h
        rw [hG]
        intro H locs ls w hl
        rw [f_X9_termOf_110] at h
        refine lv_iconst (v := 1) hx hb dX9_termOf_110 (by decide) ?_
        refine lv_goto (tgt := 115) hx hb dX9_termOf_111 (by decide) ?_
        have g := B115 V v1 v2 v4 (1 : Int32) h
        rw [hG] at g
        exact g H locs ls w (lv_sub hl [0, 1, 2, 3] rfl)
      have B54 : ∀ (V : Vt) (v1 : Int32) (v2 : Int64), f_X9_termOf_54 N KR (f_X9_termOf_6 N KR n6) V v1 v2 = some (r, V') → G 54 V [(0, .ref (ad 0)), (1, .int v1), (2, .long v2)] [] := by
        intro V v1 v2 h
        rw [hG]
        intro H locs ls w hl
        rw [f_X9_termOf_54] at h
        refine lv_aload_n hx hb dX9_termOf_54 rfl (lv_at hl 0 rfl) ?_
        refine lv_aload_n hx hb dX9_termOf_55 rfl (lv_at hl 0 rfl) ?_
        refine m_get X w 0 sm_n0 sm_k0 ci9 22 (by decide) (fvI sm_k0 rfl) rfl fl_X9_258 dX9_termOf_56 ?_
        obtain ⟨r42, q43, h⟩ := ob1i h
        refine m_ci (m_rV (As := [.int (V.1 0 22)]) (rest := []) X w hl mi_X9_codeAt ml_X9_261 0 sm_n0 sm_k0 rfl (c_X9_codeAt l D cy ad A Kc C0 N z V (V.1 0 22) r42 q43) ⟨⟨rfl, rfl, (by show 0 + 1 ≤ F; omega), (by show 8 + (2 + 11) + 0 ≤ L; omega)⟩, Nat.le_of_ble_eq_true rfl, Nat.le_of_ble_eq_true rfl⟩ rfl rfl (Nat.le_of_ble_eq_true rfl) dX9_termOf_59) w (fun H locs w => ?_)
        refine lv_istore (lv' := [(4, .int r42), (0, .ref (ad 0)), (1, .int v1), (2, .long v2)]) hx hb dX9_termOf_62 hl (by decide) rfl (fun ls hl => ?_)
        refine lv_aload_n hx hb dX9_termOf_64 rfl (lv_at hl 1 rfl) ?_
        refine lv_dup hx hb dX9_termOf_65 rfl ?_
        refine m_get X w 0 sm_n0 sm_k0 ci9 22 (by decide) (fvI sm_k0 rfl) rfl fl_X9_258 dX9_termOf_66 ?_
        refine lv_iconst (v := 1) hx hb dX9_termOf_69 (by decide) ?_
        refine lv_iadd hx hb dX9_termOf_70 ?_
        refine m_put X w 0 sm_n0 sm_k0 ci9 22 (by decide) rfl rfl rfl rfl rfl fl_X9_258 dX9_termOf_71 (fun V44 H locs eV44 w => ?_)
        replace h := bdi h _ eV44
        refine lv_aload_n hx hb dX9_termOf_74 rfl (lv_at hl 1 rfl) ?_
        refine lv_iload_n hx hb dX9_termOf_75 rfl (lv_at hl 2 rfl) ?_
        obtain ⟨r45, V47, q46, h⟩ := obi h
        refine m_cl (m_rV (As := [.int v1]) (rest := []) X w hl mi_X9_partOf ml_X9_279 0 sm_n0 sm_k0 rfl (hKR.2.2 V44 v1 r45 V47 q46) ⟨⟨rfl, rfl, hF, (by show 8 + (4 + 11) + Lk ≤ L; omega)⟩, Nat.le_of_ble_eq_true rfl, Nat.le_of_ble_eq_true rfl⟩ rfl rfl (Nat.le_of_ble_eq_true rfl) dX9_termOf_76) w (fun H locs w => ?_)
        refine lv_lstore (lv' := [(5, .long r45), (4, .int r42), (0, .ref (ad 0)), (1, .int v1), (2, .long v2)]) hx hb dX9_termOf_79 hl (by decide) rfl (fun ls hl => ?_)
        refine lv_iload hx hb dX9_termOf_81 (lv_at hl 1 rfl) ?_
        refine lv_bipush (v := 42) hx hb dX9_termOf_83 (by decide) ?_
        obtain ⟨r48, q49, h⟩ := ob1i h
        refine m_ci (m_rS (As := [.int (42 : Int32)]) (rest := [.int r42]) X w hl mi_X9_sign ml_X9_220 (c_X9_sign l D cy ad A Kc C0 N z V47 (42 : Int32) r48 q49) ⟨⟨rfl, rfl, (by show 0 + 1 ≤ F; omega), (by show 8 + (1 + 11) + 0 ≤ L; omega)⟩, Nat.le_of_ble_eq_true rfl, Nat.le_of_ble_eq_true rfl⟩ rfl rfl (Nat.le_of_ble_eq_true rfl) dX9_termOf_85) w (fun H locs w => ?_)
        refine lv_icmp_eq (tgt := 121) hx hb dX9_termOf_88 (by decide) (fun c50 => ?_) (fun c50 => ?_)
        · replace h := ifT h c50
          have g := B121 V47 v1 v2 r42 r45 h
          rw [hG] at g
          exact g H locs ls w (lv_sub hl [2, 3, 4, 1, 0] rfl)
        · replace h := ifF h c50
          refine lv_lload hx hb dX9_termOf_91 (lv_at hl 0 rfl) ?_
          refine lv_lconst (v := 0) hx hb dX9_termOf_93 (by decide) ?_
          refine W.lcmp hx hb dX9_termOf_94 ?_
          refine lv_if_ne (tgt := 121) hx hb dX9_termOf_95 (by decide) (fun c62 => ?_) (fun c62 => ?_)
          · replace h := ifF h c62
            have g := B121 V47 v1 v2 r42 r45 h
            rw [hG] at g
            exact g H locs ls w (lv_sub hl [2, 3, 4, 1, 0] rfl)
          · replace h := ifT h c62
            refine lv_aload_n hx hb dX9_termOf_98 rfl (lv_at hl 2 rfl) ?_
            refine lv_aload_n hx hb dX9_termOf_99 rfl (lv_at hl 2 rfl) ?_
            refine m_get X w 0 sm_n0 sm_k0 ci9 24 (by decide) (fvI sm_k0 rfl) rfl fl_X9_268 dX9_termOf_100 ?_
            refine lv_if_ne (tgt := 110) hx hb dX9_termOf_103 (by decide) (fun c63 => ?_) (fun c63 => ?_)
            · replace h := ifF h c63
              have g := B110 V47 v1 v2 r42 h
              rw [hG] at g
              exact g H locs ls w (lv_sub hl [2, 3, 4, 1] rfl)
            · replace h := ifT h c63
              refine lv_iload_n hx hb dX9_termOf_106 rfl (lv_at hl 3 rfl) ?_
              refine lv_if_eq (tgt := 114) hx hb dX9_termOf_107 (by decide) (fun c66 => ?_) (fun c66 => ?_)
              · replace h := ifT h c66
                refine lv_iconst (v := 0) hx hb dX9_termOf_114 (by decide) ?_
                have g := B115 V47 v1 v2 r42 (0 : Int32) h
                rw [hG] at g
                exact g H locs ls w (lv_sub hl [2, 3, 4, 1] rfl)
              · replace h := ifF h c66
                have g := B110 V47 v1 v2 r42 h
                rw [hG] at g
                exact g H locs ls w (lv_sub hl [2, 3, 4, 1] rfl)
      intro V v1 v2 h
      rw [hG]
      intro H locs ls w hl
      rw [f_X9_termOf_6] at h
      refine lv_aload_n hx hb dX9_termOf_6 rfl (lv_at hl 0 rfl) ?_
      refine lv_aload_n hx hb dX9_termOf_7 rfl (lv_at hl 0 rfl) ?_
      refine m_get X w 0 sm_n0 sm_k0 ci9 22 (by decide) (fvI sm_k0 rfl) rfl fl_X9_258 dX9_termOf_8 ?_
      obtain ⟨r37, q38, h⟩ := ob1i h
      refine m_ci (m_rV (As := [.int (V.1 0 22)]) (rest := []) X w hl mi_X9_codeAt ml_X9_261 0 sm_n0 sm_k0 rfl (c_X9_codeAt l D cy ad A Kc C0 N z V (V.1 0 22) r37 q38) ⟨⟨rfl, rfl, (by show 0 + 1 ≤ F; omega), (by show 8 + (2 + 11) + 0 ≤ L; omega)⟩, Nat.le_of_ble_eq_true rfl, Nat.le_of_ble_eq_true rfl⟩ rfl rfl (Nat.le_of_ble_eq_true rfl) dX9_termOf_11) w (fun H locs w => ?_)
      refine lv_bipush (v := 42) hx hb dX9_termOf_14 (by decide) ?_
      obtain ⟨r39, q40, h⟩ := ob1i h
      refine m_ci (m_rS (As := [.int (42 : Int32)]) (rest := [.int r37]) X w hl mi_X9_sign ml_X9_220 (c_X9_sign l D cy ad A Kc C0 N z V (42 : Int32) r39 q40) ⟨⟨rfl, rfl, (by show 0 + 1 ≤ F; omega), (by show 8 + (1 + 11) + 0 ≤ L; omega)⟩, Nat.le_of_ble_eq_true rfl, Nat.le_of_ble_eq_true rfl⟩ rfl rfl (Nat.le_of_ble_eq_true rfl) dX9_termOf_16) w (fun H locs w => ?_)
      refine lv_icmp_eq (tgt := 54) hx hb dX9_termOf_19 (by decide) (fun c41 => ?_) (fun c41 => ?_)
      · replace h := ifT h c41
        have g := B54 V v1 v2 h
        rw [hG] at g
        exact g H locs ls w (lv_sub hl [0, 1, 2] rfl)
      · replace h := ifF h c41
        refine lv_aload_n hx hb dX9_termOf_22 rfl (lv_at hl 0 rfl) ?_
        refine lv_aload_n hx hb dX9_termOf_23 rfl (lv_at hl 0 rfl) ?_
        refine m_get X w 0 sm_n0 sm_k0 ci9 22 (by decide) (fvI sm_k0 rfl) rfl fl_X9_258 dX9_termOf_24 ?_
        obtain ⟨r67, q68, h⟩ := ob1i h
        refine m_ci (m_rV (As := [.int (V.1 0 22)]) (rest := []) X w hl mi_X9_codeAt ml_X9_261 0 sm_n0 sm_k0 rfl (c_X9_codeAt l D cy ad A Kc C0 N z V (V.1 0 22) r67 q68) ⟨⟨rfl, rfl, (by show 0 + 1 ≤ F; omega), (by show 8 + (2 + 11) + 0 ≤ L; omega)⟩, Nat.le_of_ble_eq_true rfl, Nat.le_of_ble_eq_true rfl⟩ rfl rfl (Nat.le_of_ble_eq_true rfl) dX9_termOf_27) w (fun H locs w => ?_)
        refine lv_bipush (v := 47) hx hb dX9_termOf_30 (by decide) ?_
        obtain ⟨r69, q70, h⟩ := ob1i h
        refine m_ci (m_rS (As := [.int (47 : Int32)]) (rest := [.int r67]) X w hl mi_X9_sign ml_X9_220 (c_X9_sign l D cy ad A Kc C0 N z V (47 : Int32) r69 q70) ⟨⟨rfl, rfl, (by show 0 + 1 ≤ F; omega), (by show 8 + (1 + 11) + 0 ≤ L; omega)⟩, Nat.le_of_ble_eq_true rfl, Nat.le_of_ble_eq_true rfl⟩ rfl rfl (Nat.le_of_ble_eq_true rfl) dX9_termOf_32) w (fun H locs w => ?_)
        refine lv_icmp_eq (tgt := 54) hx hb dX9_termOf_35 (by decide) (fun c71 => ?_) (fun c71 => ?_)
        · replace h := ifT h c71
          have g := B54 V v1 v2 h
          rw [hG] at g
          exact g H locs ls w (lv_sub hl [0, 1, 2] rfl)
        · replace h := ifF h c71
          refine lv_aload_n hx hb dX9_termOf_38 rfl (lv_at hl 0 rfl) ?_
          refine lv_aload_n hx hb dX9_termOf_39 rfl (lv_at hl 0 rfl) ?_
          refine m_get X w 0 sm_n0 sm_k0 ci9 22 (by decide) (fvI sm_k0 rfl) rfl fl_X9_258 dX9_termOf_40 ?_
          obtain ⟨r72, q73, h⟩ := ob1i h
          refine m_ci (m_rV (As := [.int (V.1 0 22)]) (rest := []) X w hl mi_X9_codeAt ml_X9_261 0 sm_n0 sm_k0 rfl (c_X9_codeAt l D cy ad A Kc C0 N z V (V.1 0 22) r72 q73) ⟨⟨rfl, rfl, (by show 0 + 1 ≤ F; omega), (by show 8 + (2 + 11) + 0 ≤ L; omega)⟩, Nat.le_of_ble_eq_true rfl, Nat.le_of_ble_eq_true rfl⟩ rfl rfl (Nat.le_of_ble_eq_true rfl) dX9_termOf_43) w (fun H locs w => ?_)
          refine lv_bipush (v := 37) hx hb dX9_termOf_46 (by decide) ?_
          obtain ⟨r74, q75, h⟩ := ob1i h
          refine m_ci (m_rS (As := [.int (37 : Int32)]) (rest := [.int r72]) X w hl mi_X9_sign ml_X9_220 (c_X9_sign l D cy ad A Kc C0 N z V (37 : Int32) r74 q75) ⟨⟨rfl, rfl, (by show 0 + 1 ≤ F; omega), (by show 8 + (1 + 11) + 0 ≤ L; omega)⟩, Nat.le_of_ble_eq_true rfl, Nat.le_of_ble_eq_true rfl⟩ rfl rfl (Nat.le_of_ble_eq_true rfl) dX9_termOf_48) w (fun H locs w => ?_)
          refine lv_icmp_ne (tgt := 168) hx hb dX9_termOf_51 (by decide) (fun c76 => ?_) (fun c76 => ?_)
          · replace h := ifF h c76
            refine lv_lload_n hx hb dX9_termOf_168 rfl (lv_at hl 2 rfl) ?_
            obtain ⟨rfl, rfl⟩ := reti h
            exact m_rl X w hr hlocks dX9_termOf_169
          · replace h := ifT h c76
            have g := B54 V v1 v2 h
            rw [hG] at g
            exact g H locs ls w (lv_sub hl [0, 1, 2] rfl)
  rw [f_X9_termOf] at h
  refine lv_aload_n hx hb dX9_termOf_0 rfl (lv_at hl 0 rfl) ?_
  refine lv_iload_n hx hb dX9_termOf_1 rfl (lv_at hl 1 rfl) ?_
  obtain ⟨r34, V36, q35, h⟩ := obi h
  refine m_cl (m_rV (As := [.int a1]) (rest := []) X w hl mi_X9_partOf ml_X9_279 0 sm_n0 sm_k0 rfl (hKR.2.2 V a1 r34 V36 q35) ⟨⟨rfl, rfl, hF, (by show 8 + (4 + 11) + Lk ≤ L; omega)⟩, Nat.le_of_ble_eq_true rfl, Nat.le_of_ble_eq_true rfl⟩ rfl rfl (Nat.le_of_ble_eq_true rfl) dX9_termOf_2) w (fun H locs w => ?_)
  refine lv_lstore_n (lv' := [(2, .long r34), (0, .ref (ad 0)), (1, .int a1)]) hx hb dX9_termOf_5 rfl hl (by decide) rfl (fun ls hl => ?_)
  have g := L6 N V36 a1 r34 h
  rw [hG] at g
  exact g H locs ls w (lv_sub hl [1, 2, 0] rfl)
def f_X9_partOf_106 (N : Nat) (KR : Nat → Vt → Int32 → Option (Int64 × Vt)) (V : Vt) (v1 : Int32) (v2 : Int32) (v3 : Int32) : Option (Int64 × Vt) := if v1 = 0 then some ((0 : Int64), V) else if (V.1 0 24) = 0 then if v2 = (50 : Int32) then ck (((2915 : Int32) + (V.1 0 22)) - (1 : Int32)) 5715 (some ((V.2.1 2 (((2915 : Int32) + (V.1 0 22)) - (1 : Int32)).toNatClampNeg).toInt64, V)) else if (V.1 0 25) = 0 then ck (v2 - (9 : Int32)) 10 (some ((V.2.1 12 (v2 - (9 : Int32)).toNatClampNeg).toInt64, V)) else ob1 (f_X9_orderValue N V v2 v3) (fun r35 => some (r35.toInt64, V)) else some ((0 : Int64), V)
def f_X9_partOf_82 (N : Nat) (KR : Nat → Vt → Int32 → Option (Int64 × Vt)) (V : Vt) (v1 : Int32) (v2 : Int32) : Option (Int64 × Vt) := ck ((2915 : Int32) + (V.1 0 22)) 5715 (bd (V.2.1 2 ((2915 : Int32) + (V.1 0 22)).toNatClampNeg) (fun x40 => bd (sF V 0 22 ((V.1 0 22) + (1 : Int32))) (fun V41 => f_X9_partOf_106 N KR V41 v1 v2 x40)))
def f_X9_partOf (N : Nat) (KR : Nat → Vt → Int32 → Option (Int64 × Vt)) (V : Vt) (a1 : Int32) : Option (Int64 × Vt) := ob1 (f_X9_sign N (91 : Int32)) (fun r20 => ob (f_X9_passes0 N V r20) (fun r22 V24 => if r22 = 0 then ob1 (f_X9_codeAt N V24 (V24.1 0 22)) (fun r26 => bd (sF V24 0 22 ((V24.1 0 22) + (1 : Int32))) (fun V28 => if (V28.1 0 25) = 0 then f_X9_partOf_106 N KR V28 a1 r26 (0 : Int32) else if r26 = (15 : Int32) then f_X9_partOf_82 N KR V28 a1 r26 else if r26 = (16 : Int32) then f_X9_partOf_82 N KR V28 a1 r26 else if r26 = (17 : Int32) then f_X9_partOf_82 N KR V28 a1 r26 else if r26 = (21 : Int32) then f_X9_partOf_82 N KR V28 a1 r26 else f_X9_partOf_106 N KR V28 a1 r26 (0 : Int32))) else ob (KR 0 V24 a1) (fun r45 V47 => bd (sF V47 0 22 ((V47.1 0 22) + (1 : Int32))) (fun V48 => some (r45, V48)))))
set_option maxHeartbeats 4000000 in
set_option maxRecDepth 100000 in
theorem c_X9_partOf (l : Launch) (D : va_G) (cy : Nat → ClassId) (ad : Nat → Nat) (A : Nat → Prop) (Kc : State → Prop) (C0 : Cx ad A Kc) (N : Nat) (KR : Nat → Vt → Int32 → Option (Int64 × Vt)) (z Fk Lk F L : Nat) (hF : Fk + 1 ≤ F) (hL : Lk + 60 ≤ L) (hF0 : 3 ≤ F) (hL0 : 65 ≤ L) (hKR : RH_X9_sumOf l D cy ad A Kc z KR Fk Lk) (V : Vt) (a1 : Int32) (r : Int64) (V' : Vt) (h : f_X9_partOf N KR V a1 = some (r, V')) : Met l yX9_partOf (mw yX9_partOf cX9_partOf 4 (some .long)) { frames := F, cells := 0, slots := 0, locals := L } (PreM D cy ad Kc (SM z) V [.ref (ad 0), .int a1]) (QL D cy ad A r (SM z) V') 0 0 A := by
  refine ct_go C0 (own := RX9) rfl (by decide) rfl ?_
  intro p e s m below meth c ls H locs X hr hlocks hnm hl w
  have hx := X.1.1
  have hb := X.1.2.1
  have hown := X.2.1
  have hts := X.2.2.1
  have hl : lv_has ls 4 [(0, .ref (ad 0)), (1, .int a1)] := hl
  obtain ⟨G, hG⟩ : ∃ G : Nat → Vt → List (Nat × Value) → List Value → Prop, G = fun pc V lv st => ∀ (H : Heap) (locs : List Loc) (ls : Array Slot), Wd D cy ad A s.heap (SM z) V H locs → lv_has ls 4 lv → W p l e { frames := F, cells := 0, slots := 0, locals := L } s m ([.ref (ad 0), .int a1] : List Value).toArray below meth c H locs 0 0 (MQ below (QL D cy ad A r (SM z) V') ([.ref (ad 0), .int a1] : List Value).toArray s 0 0 A) (F0 m pc ls st) := ⟨_, rfl⟩
  have B106 : ∀ (V : Vt) (v1 : Int32) (v2 : Int32) (v3 : Int32), f_X9_partOf_106 N KR V v1 v2 v3 = some (r, V') → G 106 V [(0, .ref (ad 0)), (1, .int v1), (2, .int v2), (3, .int v3)] [] := by
    intro V v1 v2 v3 h
    rw [hG]
    intro H locs ls w hl
    rw [f_X9_partOf_106] at h
    refine lv_iload_n hx hb dX9_partOf_106 rfl (lv_at hl 1 rfl) ?_
    refine lv_if_eq (tgt := 117) hx hb dX9_partOf_107 (by decide) (fun c30 => ?_) (fun c30 => ?_)
    · replace h := ifT h c30
      refine lv_lconst (v := 0) hx hb dX9_partOf_117 (by decide) ?_
      obtain ⟨rfl, rfl⟩ := reti h
      exact m_rl X w hr hlocks dX9_partOf_118
    · replace h := ifF h c30
      refine lv_aload_n hx hb dX9_partOf_110 rfl (lv_at hl 0 rfl) ?_
      refine m_get X w 0 sm_n0 sm_k0 ci9 24 (by decide) (fvI sm_k0 rfl) rfl fl_X9_268 dX9_partOf_111 ?_
      refine lv_if_eq (tgt := 119) hx hb dX9_partOf_114 (by decide) (fun c31 => ?_) (fun c31 => ?_)
      · replace h := ifT h c31
        refine lv_iload_n hx hb dX9_partOf_119 rfl (lv_at hl 2 rfl) ?_
        refine lv_bipush (v := 50) hx hb dX9_partOf_120 (by decide) ?_
        refine lv_icmp_ne (tgt := 142) hx hb dX9_partOf_122 (by decide) (fun c32 => ?_) (fun c32 => ?_)
        · replace h := ifF h c32
          refine lv_aload_n hx hb dX9_partOf_142 rfl (lv_at hl 0 rfl) ?_
          refine m_get X w 0 sm_n0 sm_k0 ci9 25 (by decide) (fvI sm_k0 rfl) rfl fl_X9_288 dX9_partOf_143 ?_
          refine lv_if_eq (tgt := 159) hx hb dX9_partOf_146 (by decide) (fun c33 => ?_) (fun c33 => ?_)
          · replace h := ifT h c33
            refine lv_aload_n hx hb dX9_partOf_159 rfl (lv_at hl 0 rfl) ?_
            refine m_get X w 0 sm_n0 sm_k0 ci9 26 (by decide) (fvR sm_k0 rfl sm_p26) rfl fl_X9_63 dX9_partOf_160 ?_
            refine lv_iload_n hx hb dX9_partOf_163 rfl (lv_at hl 2 rfl) ?_
            refine lv_bipush (v := 9) hx hb dX9_partOf_164 (by decide) ?_
            refine lv_isub hx hb dX9_partOf_166 ?_
            obtain ⟨g34, h⟩ := cki h
            refine m_iald X w 12 sm_n12 sm_k12 sm_z12 g34 dX9_partOf_167 ?_
            refine lv_i2l hx hb dX9_partOf_168 rfl ?_
            obtain ⟨rfl, rfl⟩ := reti h
            exact m_rl X w hr hlocks dX9_partOf_169
          · replace h := ifF h c33
            refine lv_aload_n hx hb dX9_partOf_149 rfl (lv_at hl 0 rfl) ?_
            refine lv_iload_n hx hb dX9_partOf_150 rfl (lv_at hl 2 rfl) ?_
            refine lv_iload_n hx hb dX9_partOf_151 rfl (lv_at hl 3 rfl) ?_
            obtain ⟨r35, q36, h⟩ := ob1i h
            refine m_ci (m_rV (As := [.int v2, .int v3]) (rest := []) X w hl mi_X9_orderValue ml_X9_291 0 sm_n0 sm_k0 rfl (c_X9_orderValue l D cy ad A Kc C0 N z V v2 v3 r35 q36) ⟨⟨rfl, rfl, (by show 2 + 1 ≤ F; omega), (by show 8 + (3 + 11) + 43 ≤ L; omega)⟩, Nat.le_of_ble_eq_true rfl, Nat.le_of_ble_eq_true rfl⟩ rfl rfl (Nat.le_of_ble_eq_true rfl) dX9_partOf_152) w (fun H locs w => ?_)
            refine lv_i2l hx hb dX9_partOf_155 rfl ?_
            refine lv_goto (tgt := 169) hx hb dX9_partOf_156 (by decide) ?_
            obtain ⟨rfl, rfl⟩ := reti h
            exact m_rl X w hr hlocks dX9_partOf_169
        · replace h := ifT h c32
          refine lv_aload_n hx hb dX9_partOf_125 rfl (lv_at hl 0 rfl) ?_
          refine m_get X w 0 sm_n0 sm_k0 ci9 2 (by decide) (fvR sm_k0 rfl sm_p2) rfl fl_X9_28 dX9_partOf_126 ?_
          refine lv_sipush (v := 2915) hx hb dX9_partOf_129 (by decide) ?_
          refine lv_aload_n hx hb dX9_partOf_132 rfl (lv_at hl 0 rfl) ?_
          refine m_get X w 0 sm_n0 sm_k0 ci9 22 (by decide) (fvI sm_k0 rfl) rfl fl_X9_258 dX9_partOf_133 ?_
          refine lv_iadd hx hb dX9_partOf_136 ?_
          refine lv_iconst (v := 1) hx hb dX9_partOf_137 (by decide) ?_
          refine lv_isub hx hb dX9_partOf_138 ?_
          obtain ⟨g37, h⟩ := cki h
          refine m_iald X w 2 sm_n2 sm_k2 sm_z2 g37 dX9_partOf_139 ?_
          refine lv_i2l hx hb dX9_partOf_140 rfl ?_
          obtain ⟨rfl, rfl⟩ := reti h
          exact m_rl X w hr hlocks dX9_partOf_141
      · replace h := ifF h c31
        refine lv_lconst (v := 0) hx hb dX9_partOf_117 (by decide) ?_
        obtain ⟨rfl, rfl⟩ := reti h
        exact m_rl X w hr hlocks dX9_partOf_118
  have B82 : ∀ (V : Vt) (v1 : Int32) (v2 : Int32), f_X9_partOf_82 N KR V v1 v2 = some (r, V') → G 82 V [(0, .ref (ad 0)), (1, .int v1), (2, .int v2)] [] := by
    intro V v1 v2 h
    rw [hG]
    intro H locs ls w hl
    rw [f_X9_partOf_82] at h
    refine lv_aload_n hx hb dX9_partOf_82 rfl (lv_at hl 0 rfl) ?_
    refine m_get X w 0 sm_n0 sm_k0 ci9 2 (by decide) (fvR sm_k0 rfl sm_p2) rfl fl_X9_28 dX9_partOf_83 ?_
    refine lv_sipush (v := 2915) hx hb dX9_partOf_86 (by decide) ?_
    refine lv_aload_n hx hb dX9_partOf_89 rfl (lv_at hl 0 rfl) ?_
    refine m_get X w 0 sm_n0 sm_k0 ci9 22 (by decide) (fvI sm_k0 rfl) rfl fl_X9_258 dX9_partOf_90 ?_
    refine lv_iadd hx hb dX9_partOf_93 ?_
    obtain ⟨g39, h⟩ := cki h
    refine m_iald X w 2 sm_n2 sm_k2 sm_z2 g39 dX9_partOf_94 ?_
    refine lv_topi (fun x40 ex40 => ?_)
    replace h := bdi h _ ex40
    refine lv_istore_n (lv' := [(3, .int x40), (0, .ref (ad 0)), (1, .int v1), (2, .int v2)]) hx hb dX9_partOf_95 rfl hl (by decide) rfl (fun ls hl => ?_)
    refine lv_aload_n hx hb dX9_partOf_96 rfl (lv_at hl 1 rfl) ?_
    refine lv_dup hx hb dX9_partOf_97 rfl ?_
    refine m_get X w 0 sm_n0 sm_k0 ci9 22 (by decide) (fvI sm_k0 rfl) rfl fl_X9_258 dX9_partOf_98 ?_
    refine lv_iconst (v := 1) hx hb dX9_partOf_101 (by decide) ?_
    refine lv_iadd hx hb dX9_partOf_102 ?_
    refine m_put X w 0 sm_n0 sm_k0 ci9 22 (by decide) rfl rfl rfl rfl rfl fl_X9_258 dX9_partOf_103 (fun V41 H locs eV41 w => ?_)
    replace h := bdi h _ eV41
    have g := B106 V41 v1 v2 x40 h
    rw [hG] at g
    exact g H locs ls w (lv_sub hl [1, 2, 3, 0] rfl)
  rw [f_X9_partOf] at h
  refine lv_aload_n hx hb dX9_partOf_0 rfl (lv_at hl 0 rfl) ?_
  refine lv_bipush (v := 91) hx hb dX9_partOf_1 (by decide) ?_
  obtain ⟨r20, q21, h⟩ := ob1i h
  refine m_ci (m_rS (As := [.int (91 : Int32)]) (rest := [.ref (ad 0)]) X w hl mi_X9_sign ml_X9_220 (c_X9_sign l D cy ad A Kc C0 N z V (91 : Int32) r20 q21) ⟨⟨rfl, rfl, (by show 0 + 1 ≤ F; omega), (by show 8 + (1 + 11) + 0 ≤ L; omega)⟩, Nat.le_of_ble_eq_true rfl, Nat.le_of_ble_eq_true rfl⟩ rfl rfl (Nat.le_of_ble_eq_true rfl) dX9_partOf_3) w (fun H locs w => ?_)
  obtain ⟨r22, V24, q23, h⟩ := obi h
  refine m_ci (m_rV (As := [.int r20]) (rest := []) X w hl mi_X9_passes0 ml_X9_282 0 sm_n0 sm_k0 rfl (c_X9_passes0 l D cy ad A Kc C0 N z V r20 r22 V24 q23) ⟨⟨rfl, rfl, (by show 1 + 1 ≤ F; omega), (by show 8 + (3 + 11) + 21 ≤ L; omega)⟩, Nat.le_of_ble_eq_true rfl, Nat.le_of_ble_eq_true rfl⟩ rfl rfl (Nat.le_of_ble_eq_true rfl) dX9_partOf_6) w (fun H locs w => ?_)
  refine lv_if_eq (tgt := 30) hx hb dX9_partOf_9 (by decide) (fun c25 => ?_) (fun c25 => ?_)
  · replace h := ifT h c25
    refine lv_aload_n hx hb dX9_partOf_30 rfl (lv_at hl 0 rfl) ?_
    refine lv_aload_n hx hb dX9_partOf_31 rfl (lv_at hl 0 rfl) ?_
    refine m_get X w 0 sm_n0 sm_k0 ci9 22 (by decide) (fvI sm_k0 rfl) rfl fl_X9_258 dX9_partOf_32 ?_
    obtain ⟨r26, q27, h⟩ := ob1i h
    refine m_ci (m_rV (As := [.int (V24.1 0 22)]) (rest := []) X w hl mi_X9_codeAt ml_X9_261 0 sm_n0 sm_k0 rfl (c_X9_codeAt l D cy ad A Kc C0 N z V24 (V24.1 0 22) r26 q27) ⟨⟨rfl, rfl, (by show 0 + 1 ≤ F; omega), (by show 8 + (2 + 11) + 0 ≤ L; omega)⟩, Nat.le_of_ble_eq_true rfl, Nat.le_of_ble_eq_true rfl⟩ rfl rfl (Nat.le_of_ble_eq_true rfl) dX9_partOf_35) w (fun H locs w => ?_)
    refine lv_istore_n (lv' := [(2, .int r26), (0, .ref (ad 0)), (1, .int a1)]) hx hb dX9_partOf_38 rfl hl (by decide) rfl (fun ls hl => ?_)
    refine lv_iconst (v := 0) hx hb dX9_partOf_39 (by decide) ?_
    refine lv_istore_n (lv' := [(3, .int (0 : Int32)), (2, .int r26), (0, .ref (ad 0)), (1, .int a1)]) hx hb dX9_partOf_40 rfl hl (by decide) rfl (fun ls hl => ?_)
    refine lv_aload_n hx hb dX9_partOf_41 rfl (lv_at hl 2 rfl) ?_
    refine lv_dup hx hb dX9_partOf_42 rfl ?_
    refine m_get X w 0 sm_n0 sm_k0 ci9 22 (by decide) (fvI sm_k0 rfl) rfl fl_X9_258 dX9_partOf_43 ?_
    refine lv_iconst (v := 1) hx hb dX9_partOf_46 (by decide) ?_
    refine lv_iadd hx hb dX9_partOf_47 ?_
    refine m_put X w 0 sm_n0 sm_k0 ci9 22 (by decide) rfl rfl rfl rfl rfl fl_X9_258 dX9_partOf_48 (fun V28 H locs eV28 w => ?_)
    replace h := bdi h _ eV28
    refine lv_aload_n hx hb dX9_partOf_51 rfl (lv_at hl 2 rfl) ?_
    refine m_get X w 0 sm_n0 sm_k0 ci9 25 (by decide) (fvI sm_k0 rfl) rfl fl_X9_288 dX9_partOf_52 ?_
    refine lv_if_eq (tgt := 106) hx hb dX9_partOf_55 (by decide) (fun c29 => ?_) (fun c29 => ?_)
    · replace h := ifT h c29
      have g := B106 V28 a1 r26 (0 : Int32) h
      rw [hG] at g
      exact g H locs ls w (lv_sub hl [2, 3, 1, 0] rfl)
    · replace h := ifF h c29
      refine lv_iload_n hx hb dX9_partOf_58 rfl (lv_at hl 1 rfl) ?_
      refine lv_bipush (v := 15) hx hb dX9_partOf_59 (by decide) ?_
      refine lv_icmp_eq (tgt := 82) hx hb dX9_partOf_61 (by decide) (fun c38 => ?_) (fun c38 => ?_)
      · replace h := ifT h c38
        have g := B82 V28 a1 r26 h
        rw [hG] at g
        exact g H locs ls w (lv_sub hl [2, 3, 1] rfl)
      · replace h := ifF h c38
        refine lv_iload_n hx hb dX9_partOf_64 rfl (lv_at hl 1 rfl) ?_
        refine lv_bipush (v := 16) hx hb dX9_partOf_65 (by decide) ?_
        refine lv_icmp_eq (tgt := 82) hx hb dX9_partOf_67 (by decide) (fun c42 => ?_) (fun c42 => ?_)
        · replace h := ifT h c42
          have g := B82 V28 a1 r26 h
          rw [hG] at g
          exact g H locs ls w (lv_sub hl [2, 3, 1] rfl)
        · replace h := ifF h c42
          refine lv_iload_n hx hb dX9_partOf_70 rfl (lv_at hl 1 rfl) ?_
          refine lv_bipush (v := 17) hx hb dX9_partOf_71 (by decide) ?_
          refine lv_icmp_eq (tgt := 82) hx hb dX9_partOf_73 (by decide) (fun c43 => ?_) (fun c43 => ?_)
          · replace h := ifT h c43
            have g := B82 V28 a1 r26 h
            rw [hG] at g
            exact g H locs ls w (lv_sub hl [2, 3, 1] rfl)
          · replace h := ifF h c43
            refine lv_iload_n hx hb dX9_partOf_76 rfl (lv_at hl 1 rfl) ?_
            refine lv_bipush (v := 21) hx hb dX9_partOf_77 (by decide) ?_
            refine lv_icmp_ne (tgt := 106) hx hb dX9_partOf_79 (by decide) (fun c44 => ?_) (fun c44 => ?_)
            · replace h := ifF h c44
              have g := B106 V28 a1 r26 (0 : Int32) h
              rw [hG] at g
              exact g H locs ls w (lv_sub hl [2, 3, 1, 0] rfl)
            · replace h := ifT h c44
              have g := B82 V28 a1 r26 h
              rw [hG] at g
              exact g H locs ls w (lv_sub hl [2, 3, 1] rfl)
  · replace h := ifF h c25
    refine lv_aload_n hx hb dX9_partOf_12 rfl (lv_at hl 0 rfl) ?_
    refine lv_iload_n hx hb dX9_partOf_13 rfl (lv_at hl 1 rfl) ?_
    obtain ⟨r45, V47, q46, h⟩ := obi h
    refine m_cl (m_rV (As := [.int a1]) (rest := []) X w hl mi_X9_sumOf ml_X9_285 0 sm_n0 sm_k0 rfl (hKR.1 V24 a1 r45 V47 q46) ⟨⟨rfl, rfl, hF, (by show 8 + (7 + 11) + Lk ≤ L; omega)⟩, Nat.le_of_ble_eq_true rfl, Nat.le_of_ble_eq_true rfl⟩ rfl rfl (Nat.le_of_ble_eq_true rfl) dX9_partOf_14) w (fun H locs w => ?_)
    refine lv_lstore_n (lv' := [(2, .long r45), (0, .ref (ad 0)), (1, .int a1)]) hx hb dX9_partOf_17 rfl hl (by decide) rfl (fun ls hl => ?_)
    refine lv_aload_n hx hb dX9_partOf_18 rfl (lv_at hl 1 rfl) ?_
    refine lv_dup hx hb dX9_partOf_19 rfl ?_
    refine m_get X w 0 sm_n0 sm_k0 ci9 22 (by decide) (fvI sm_k0 rfl) rfl fl_X9_258 dX9_partOf_20 ?_
    refine lv_iconst (v := 1) hx hb dX9_partOf_23 (by decide) ?_
    refine lv_iadd hx hb dX9_partOf_24 ?_
    refine m_put X w 0 sm_n0 sm_k0 ci9 22 (by decide) rfl rfl rfl rfl rfl fl_X9_258 dX9_partOf_25 (fun V48 H locs eV48 w => ?_)
    replace h := bdi h _ eV48
    refine lv_lload_n hx hb dX9_partOf_28 rfl (lv_at hl 0 rfl) ?_
    obtain ⟨rfl, rfl⟩ := reti h
    exact m_rl X w hr hlocks dX9_partOf_29
def g_X9_sumOf (N : Nat) : Nat → Nat → Vt → Int32 → Option (Int64 × Vt)
  | 0, _, _, _ => none
  | d + 1, t, V, a => if t = 0 then f_X9_sumOf N (g_X9_sumOf N d) V a else if t = 1 then f_X9_termOf N (g_X9_sumOf N d) V a else f_X9_partOf N (g_X9_sumOf N d) V a
theorem cg_X9_sumOf (l : Launch) (D : va_G) (cy : Nat → ClassId) (ad : Nat → Nat) (A : Nat → Prop) (Kc : State → Prop) (C0 : Cx ad A Kc) (N z : Nat) : ∀ d : Nat, RH_X9_sumOf l D cy ad A Kc z (g_X9_sumOf N d) (3 + d) (65 + 60 * d) := by
  intro d
  induction d with
  | zero => exact ⟨(fun V a1 r V' h => by rw [g_X9_sumOf] at h; cases h), (fun V a1 r V' h => by rw [g_X9_sumOf] at h; cases h), (fun V a1 r V' h => by rw [g_X9_sumOf] at h; cases h)⟩
  | succ d ih =>
    exact ⟨(fun V a1 r V' h => c_X9_sumOf l D cy ad A Kc C0 N (g_X9_sumOf N d) z (3 + d) (65 + 60 * d) (3 + (d + 1)) (65 + 60 * (d + 1)) (by omega) (by omega) (by omega) (by omega) ih V a1 r V' (by rw [g_X9_sumOf] at h; exact (ifT h rfl))), (fun V a1 r V' h => c_X9_termOf l D cy ad A Kc C0 N (g_X9_sumOf N d) z (3 + d) (65 + 60 * d) (3 + (d + 1)) (65 + 60 * (d + 1)) (by omega) (by omega) (by omega) (by omega) ih V a1 r V' (by rw [g_X9_sumOf] at h; exact (ifT (ifF h (by decide)) rfl))), (fun V a1 r V' h => c_X9_partOf l D cy ad A Kc C0 N (g_X9_sumOf N d) z (3 + d) (65 + 60 * d) (3 + (d + 1)) (65 + 60 * (d + 1)) (by omega) (by omega) (by omega) (by omega) ih V a1 r V' (by rw [g_X9_sumOf] at h; exact (ifF (ifF h (by decide)) (by decide))))⟩
abbrev RH_X9_readTest (l : Launch) (D : va_G) (cy : Nat → ClassId) (ad : Nat → Nat) (A : Nat → Prop) (Kc : State → Prop) (z : Nat) (KR : Nat → Vt → Int32 → Option Vt) (F L : Nat) : Prop := (∀ (V : Vt) (a1 : Int32) (V' : Vt), KR 0 V a1 = some V' → Met l yX9_readTest (mw yX9_readTest cX9_readTest 2 none) { frames := F, cells := 0, slots := 0, locals := L } (PreM D cy ad Kc (SM z) V [.ref (ad 0), .int a1]) (QV D cy ad A (SM z) V') 0 0 A) ∧ (∀ (V : Vt) (a1 : Int32) (V' : Vt), KR 1 V a1 = some V' → Met l yX9_readBoth (mw yX9_readBoth cX9_readBoth 2 none) { frames := F, cells := 0, slots := 0, locals := L } (PreM D cy ad Kc (SM z) V [.ref (ad 0), .int a1]) (QV D cy ad A (SM z) V') 0 0 A) ∧ (∀ (V : Vt) (a1 : Int32) (V' : Vt), KR 2 V a1 = some V' → Met l yX9_readPlain (mw yX9_readPlain cX9_readPlain 4 none) { frames := F, cells := 0, slots := 0, locals := L } (PreM D cy ad Kc (SM z) V [.ref (ad 0), .int a1]) (QV D cy ad A (SM z) V') 0 0 A)
def f_X9_readTest_5 (N : Nat) (KR : Nat → Vt → Int32 → Option Vt) : Nat → Vt → Int32 → Option Vt
  | 0, _, _ => none
  | n + 1, V, v1 => ob (f_X9_takes0 N V (6 : Int32)) (fun r13 V15 => if r13 = 0 then some V15 else obv (KR 1 V15 v1) (fun V19 => (f_X9_readTest_5 N KR n) V19 v1))
def f_X9_readTest (N : Nat) (KR : Nat → Vt → Int32 → Option Vt) (V : Vt) (a1 : Int32) : Option Vt := obv (KR 1 V a1) (fun V12 => f_X9_readTest_5 N KR N V12 a1)
set_option maxHeartbeats 4000000 in
set_option maxRecDepth 100000 in
theorem c_X9_readTest (l : Launch) (D : va_G) (cy : Nat → ClassId) (ad : Nat → Nat) (A : Nat → Prop) (Kc : State → Prop) (C0 : Cx ad A Kc) (N : Nat) (KR : Nat → Vt → Int32 → Option Vt) (z Fk Lk F L : Nat) (hF : Fk + 1 ≤ F) (hL : Lk + 60 ≤ L) (hF0 : 44 ≤ F) (hL0 : 2484 ≤ L) (hKR : RH_X9_readTest l D cy ad A Kc z KR Fk Lk) (V : Vt) (a1 : Int32) (V' : Vt) (h : f_X9_readTest N KR V a1 = some V') : Met l yX9_readTest (mw yX9_readTest cX9_readTest 2 none) { frames := F, cells := 0, slots := 0, locals := L } (PreM D cy ad Kc (SM z) V [.ref (ad 0), .int a1]) (QV D cy ad A (SM z) V') 0 0 A := by
  refine ct_go C0 (own := RX9) rfl (by decide) rfl ?_
  intro p e s m below meth c ls H locs X hr hlocks hnm hl w
  have hx := X.1.1
  have hb := X.1.2.1
  have hown := X.2.1
  have hts := X.2.2.1
  have hl : lv_has ls 2 [(0, .ref (ad 0)), (1, .int a1)] := hl
  obtain ⟨G, hG⟩ : ∃ G : Nat → Vt → List (Nat × Value) → List Value → Prop, G = fun pc V lv st => ∀ (H : Heap) (locs : List Loc) (ls : Array Slot), Wd D cy ad A s.heap (SM z) V H locs → lv_has ls 2 lv → W p l e { frames := F, cells := 0, slots := 0, locals := L } s m ([.ref (ad 0), .int a1] : List Value).toArray below meth c H locs 0 0 (MQ below (QV D cy ad A (SM z) V') ([.ref (ad 0), .int a1] : List Value).toArray s 0 0 A) (F0 m pc ls st) := ⟨_, rfl⟩
  have L5 : ∀ (n5 : Nat) (V : Vt) (v1 : Int32), f_X9_readTest_5 N KR n5 V v1 = some V' → G 5 V [(0, .ref (ad 0)), (1, .int v1)] [] := by
    intro n5
    induction n5 with
    | zero => intro V v1 h; rw [f_X9_readTest_5] at h; cases h
    | succ n5 ih5 =>
      intro V v1 h
      rw [hG]
      intro H locs ls w hl
      rw [f_X9_readTest_5] at h
      refine lv_aload_n hx hb dX9_readTest_5 rfl (lv_at hl 0 rfl) ?_
      refine lv_bipush (v := 6) hx hb dX9_readTest_6 (by decide) ?_
      obtain ⟨r13, V15, q14, h⟩ := obi h
      refine m_ci (m_rV (As := [.int (6 : Int32)]) (rest := []) X w hl mi_X9_takes0 ml_X9_181 0 sm_n0 sm_k0 rfl (c_X9_takes0 l D cy ad A Kc C0 N z V (6 : Int32) r13 V15 q14) ⟨⟨rfl, rfl, (by show 1 + 1 ≤ F; omega), (by show 8 + (3 + 11) + 20 ≤ L; omega)⟩, Nat.le_of_ble_eq_true rfl, Nat.le_of_ble_eq_true rfl⟩ rfl rfl (Nat.le_of_ble_eq_true rfl) dX9_readTest_8) w (fun H locs w => ?_)
      refine lv_if_eq (tgt := 22) hx hb dX9_readTest_11 (by decide) (fun c16 => ?_) (fun c16 => ?_)
      · replace h := ifT h c16
        obtain rfl := Option.some.inj h
        exact m_rv X w hr hlocks dX9_readTest_22
      · replace h := ifF h c16
        refine lv_aload_n hx hb dX9_readTest_14 rfl (lv_at hl 0 rfl) ?_
        refine lv_iload_n hx hb dX9_readTest_15 rfl (lv_at hl 1 rfl) ?_
        obtain ⟨V19, q18, h⟩ := obvi h
        refine m_cv (m_rV (As := [.int v1]) (rest := []) X w hl mi_X9_readBoth ml_X9_214 0 sm_n0 sm_k0 rfl (hKR.2.1 V15 v1 V19 q18) ⟨⟨rfl, rfl, hF, (by show 8 + (2 + 11) + Lk ≤ L; omega)⟩, Nat.le_of_ble_eq_true rfl, Nat.le_of_ble_eq_true rfl⟩ rfl rfl (Nat.le_of_ble_eq_true rfl) dX9_readTest_16) w (fun H locs w => ?_)
        refine lv_goto (tgt := 5) hx hb dX9_readTest_19 (by decide) ?_
        have g := ih5 V19 v1 h
        rw [hG] at g
        exact g H locs ls w (lv_sub hl [0, 1] rfl)
  rw [f_X9_readTest] at h
  refine lv_aload_n hx hb dX9_readTest_0 rfl (lv_at hl 0 rfl) ?_
  refine lv_iload_n hx hb dX9_readTest_1 rfl (lv_at hl 1 rfl) ?_
  obtain ⟨V12, q11, h⟩ := obvi h
  refine m_cv (m_rV (As := [.int a1]) (rest := []) X w hl mi_X9_readBoth ml_X9_214 0 sm_n0 sm_k0 rfl (hKR.2.1 V a1 V12 q11) ⟨⟨rfl, rfl, hF, (by show 8 + (2 + 11) + Lk ≤ L; omega)⟩, Nat.le_of_ble_eq_true rfl, Nat.le_of_ble_eq_true rfl⟩ rfl rfl (Nat.le_of_ble_eq_true rfl) dX9_readTest_2) w (fun H locs w => ?_)
  have g := L5 N V12 a1 h
  rw [hG] at g
  exact g H locs ls w (lv_sub hl [0, 1] rfl)
def f_X9_readBoth_5 (N : Nat) (KR : Nat → Vt → Int32 → Option Vt) : Nat → Vt → Int32 → Option Vt
  | 0, _, _ => none
  | n + 1, V, v1 => ob (f_X9_takes0 N V (7 : Int32)) (fun r13 V15 => if r13 = 0 then some V15 else obv (KR 2 V15 v1) (fun V19 => (f_X9_readBoth_5 N KR n) V19 v1))
def f_X9_readBoth (N : Nat) (KR : Nat → Vt → Int32 → Option Vt) (V : Vt) (a1 : Int32) : Option Vt := obv (KR 2 V a1) (fun V12 => f_X9_readBoth_5 N KR N V12 a1)
set_option maxHeartbeats 4000000 in
set_option maxRecDepth 100000 in
theorem c_X9_readBoth (l : Launch) (D : va_G) (cy : Nat → ClassId) (ad : Nat → Nat) (A : Nat → Prop) (Kc : State → Prop) (C0 : Cx ad A Kc) (N : Nat) (KR : Nat → Vt → Int32 → Option Vt) (z Fk Lk F L : Nat) (hF : Fk + 1 ≤ F) (hL : Lk + 60 ≤ L) (hF0 : 44 ≤ F) (hL0 : 2484 ≤ L) (hKR : RH_X9_readTest l D cy ad A Kc z KR Fk Lk) (V : Vt) (a1 : Int32) (V' : Vt) (h : f_X9_readBoth N KR V a1 = some V') : Met l yX9_readBoth (mw yX9_readBoth cX9_readBoth 2 none) { frames := F, cells := 0, slots := 0, locals := L } (PreM D cy ad Kc (SM z) V [.ref (ad 0), .int a1]) (QV D cy ad A (SM z) V') 0 0 A := by
  refine ct_go C0 (own := RX9) rfl (by decide) rfl ?_
  intro p e s m below meth c ls H locs X hr hlocks hnm hl w
  have hx := X.1.1
  have hb := X.1.2.1
  have hown := X.2.1
  have hts := X.2.2.1
  have hl : lv_has ls 2 [(0, .ref (ad 0)), (1, .int a1)] := hl
  obtain ⟨G, hG⟩ : ∃ G : Nat → Vt → List (Nat × Value) → List Value → Prop, G = fun pc V lv st => ∀ (H : Heap) (locs : List Loc) (ls : Array Slot), Wd D cy ad A s.heap (SM z) V H locs → lv_has ls 2 lv → W p l e { frames := F, cells := 0, slots := 0, locals := L } s m ([.ref (ad 0), .int a1] : List Value).toArray below meth c H locs 0 0 (MQ below (QV D cy ad A (SM z) V') ([.ref (ad 0), .int a1] : List Value).toArray s 0 0 A) (F0 m pc ls st) := ⟨_, rfl⟩
  have L5 : ∀ (n5 : Nat) (V : Vt) (v1 : Int32), f_X9_readBoth_5 N KR n5 V v1 = some V' → G 5 V [(0, .ref (ad 0)), (1, .int v1)] [] := by
    intro n5
    induction n5 with
    | zero => intro V v1 h; rw [f_X9_readBoth_5] at h; cases h
    | succ n5 ih5 =>
      intro V v1 h
      rw [hG]
      intro H locs ls w hl
      rw [f_X9_readBoth_5] at h
      refine lv_aload_n hx hb dX9_readBoth_5 rfl (lv_at hl 0 rfl) ?_
      refine lv_bipush (v := 7) hx hb dX9_readBoth_6 (by decide) ?_
      obtain ⟨r13, V15, q14, h⟩ := obi h
      refine m_ci (m_rV (As := [.int (7 : Int32)]) (rest := []) X w hl mi_X9_takes0 ml_X9_181 0 sm_n0 sm_k0 rfl (c_X9_takes0 l D cy ad A Kc C0 N z V (7 : Int32) r13 V15 q14) ⟨⟨rfl, rfl, (by show 1 + 1 ≤ F; omega), (by show 8 + (3 + 11) + 20 ≤ L; omega)⟩, Nat.le_of_ble_eq_true rfl, Nat.le_of_ble_eq_true rfl⟩ rfl rfl (Nat.le_of_ble_eq_true rfl) dX9_readBoth_8) w (fun H locs w => ?_)
      refine lv_if_eq (tgt := 22) hx hb dX9_readBoth_11 (by decide) (fun c16 => ?_) (fun c16 => ?_)
      · replace h := ifT h c16
        obtain rfl := Option.some.inj h
        exact m_rv X w hr hlocks dX9_readBoth_22
      · replace h := ifF h c16
        refine lv_aload_n hx hb dX9_readBoth_14 rfl (lv_at hl 0 rfl) ?_
        refine lv_iload_n hx hb dX9_readBoth_15 rfl (lv_at hl 1 rfl) ?_
        obtain ⟨V19, q18, h⟩ := obvi h
        refine m_cv (m_rV (As := [.int v1]) (rest := []) X w hl mi_X9_readPlain ml_X9_217 0 sm_n0 sm_k0 rfl (hKR.2.2 V15 v1 V19 q18) ⟨⟨rfl, rfl, hF, (by show 8 + (4 + 11) + Lk ≤ L; omega)⟩, Nat.le_of_ble_eq_true rfl, Nat.le_of_ble_eq_true rfl⟩ rfl rfl (Nat.le_of_ble_eq_true rfl) dX9_readBoth_16) w (fun H locs w => ?_)
        refine lv_goto (tgt := 5) hx hb dX9_readBoth_19 (by decide) ?_
        have g := ih5 V19 v1 h
        rw [hG] at g
        exact g H locs ls w (lv_sub hl [0, 1] rfl)
  rw [f_X9_readBoth] at h
  refine lv_aload_n hx hb dX9_readBoth_0 rfl (lv_at hl 0 rfl) ?_
  refine lv_iload_n hx hb dX9_readBoth_1 rfl (lv_at hl 1 rfl) ?_
  obtain ⟨V12, q11, h⟩ := obvi h
  refine m_cv (m_rV (As := [.int a1]) (rest := []) X w hl mi_X9_readPlain ml_X9_217 0 sm_n0 sm_k0 rfl (hKR.2.2 V a1 V12 q11) ⟨⟨rfl, rfl, hF, (by show 8 + (4 + 11) + Lk ≤ L; omega)⟩, Nat.le_of_ble_eq_true rfl, Nat.le_of_ble_eq_true rfl⟩ rfl rfl (Nat.le_of_ble_eq_true rfl) dX9_readBoth_2) w (fun H locs w => ?_)
  have g := L5 N V12 a1 h
  rw [hG] at g
  exact g H locs ls w (lv_sub hl [0, 1] rfl)
def f_X9_readPlain_128 (N : Nat) (KR : Nat → Vt → Int32 → Option Vt) (V : Vt) (v1 : Int32) : Option Vt := obv (g_X9_readSum N 40 0 V v1) (fun V65 => some V65)
def f_X9_readPlain_53 (N : Nat) (KR : Nat → Vt → Int32 → Option Vt) (V : Vt) (v1 : Int32) : Option Vt := ob1 (f_X9_fine N V) (fun r78 => if r78 = 0 then some V else bd (sF V 0 19 ((V.1 0 19) + (1 : Int32))) (fun V81 => obv (KR 0 V81 (v1 + (1 : Int32))) (fun V84 => ob1 (f_X9_sign N (41 : Int32)) (fun r85 => obv (f_X9_must N V84 r85) (fun V89 => some V89)))))
def f_X9_readPlain_2 (N : Nat) (KR : Nat → Vt → Int32 → Option Vt) : Nat → Vt → Int32 → Int32 → Option Vt
  | 0, _, _, _ => none
  | n + 1, V, v1, v2 => if v2 = 0 then ob1 (f_X9_fine N V) (fun r46 => if r46 = 0 then some V else ck (V.1 0 19) 401 (bd (V.2.1 9 (V.1 0 19).toNatClampNeg) (fun x50 => ob1 (f_X9_sign N (40 : Int32)) (fun r51 => if x50 = r51 then if v1 = (8 : Int32) then obv (f_X9_faults N V) (fun V92 => f_X9_readPlain_53 N KR V92 v1) else f_X9_readPlain_53 N KR V v1 else obv (g_X9_readSum N 40 0 V v1) (fun V56 => ob1 (f_X9_sign N (60 : Int32)) (fun r57 => ob (f_X9_takes0 N V56 r57) (fun r59 V61 => if r59 = 0 then ob1 (f_X9_sign N (62 : Int32)) (fun r66 => ob (f_X9_takes0 N V61 r66) (fun r68 V70 => if r68 = 0 then ob1 (f_X9_sign N (61 : Int32)) (fun r72 => obv (f_X9_must N V70 r72) (fun V76 => f_X9_readPlain_128 N KR V76 v1)) else f_X9_readPlain_128 N KR V70 v1)) else f_X9_readPlain_128 N KR V61 v1))))))) else ob (f_X9_takes0 N V (8 : Int32)) (fun r93 V95 => (f_X9_readPlain_2 N KR n) V95 v1 r93)
def f_X9_readPlain (N : Nat) (KR : Nat → Vt → Int32 → Option Vt) (V : Vt) (a1 : Int32) : Option Vt := f_X9_readPlain_2 N KR N V a1 (1 : Int32)
set_option maxHeartbeats 4000000 in
set_option maxRecDepth 100000 in
theorem c_X9_readPlain (l : Launch) (D : va_G) (cy : Nat → ClassId) (ad : Nat → Nat) (A : Nat → Prop) (Kc : State → Prop) (C0 : Cx ad A Kc) (N : Nat) (KR : Nat → Vt → Int32 → Option Vt) (z Fk Lk F L : Nat) (hF : Fk + 1 ≤ F) (hL : Lk + 60 ≤ L) (hF0 : 44 ≤ F) (hL0 : 2484 ≤ L) (hKR : RH_X9_readTest l D cy ad A Kc z KR Fk Lk) (V : Vt) (a1 : Int32) (V' : Vt) (h : f_X9_readPlain N KR V a1 = some V') : Met l yX9_readPlain (mw yX9_readPlain cX9_readPlain 4 none) { frames := F, cells := 0, slots := 0, locals := L } (PreM D cy ad Kc (SM z) V [.ref (ad 0), .int a1]) (QV D cy ad A (SM z) V') 0 0 A := by
  refine ct_go C0 (own := RX9) rfl (by decide) rfl ?_
  intro p e s m below meth c ls H locs X hr hlocks hnm hl w
  have hx := X.1.1
  have hb := X.1.2.1
  have hown := X.2.1
  have hts := X.2.2.1
  have hl : lv_has ls 4 [(0, .ref (ad 0)), (1, .int a1)] := hl
  obtain ⟨G, hG⟩ : ∃ G : Nat → Vt → List (Nat × Value) → List Value → Prop, G = fun pc V lv st => ∀ (H : Heap) (locs : List Loc) (ls : Array Slot), Wd D cy ad A s.heap (SM z) V H locs → lv_has ls 4 lv → W p l e { frames := F, cells := 0, slots := 0, locals := L } s m ([.ref (ad 0), .int a1] : List Value).toArray below meth c H locs 0 0 (MQ below (QV D cy ad A (SM z) V') ([.ref (ad 0), .int a1] : List Value).toArray s 0 0 A) (F0 m pc ls st) := ⟨_, rfl⟩
  have B128 : ∀ (V : Vt) (v1 : Int32), f_X9_readPlain_128 N KR V v1 = some V' → G 128 V [(0, .ref (ad 0)), (1, .int v1)] [] := by
    intro V v1 h
    rw [hG]
    intro H locs ls w hl
    rw [f_X9_readPlain_128] at h
    refine lv_aload_n hx hb dX9_readPlain_128 rfl (lv_at hl 0 rfl) ?_
    refine lv_iload_n hx hb dX9_readPlain_129 rfl (lv_at hl 1 rfl) ?_
    obtain ⟨V65, q64, h⟩ := obvi h
    refine m_cv (m_rV (As := [.int v1]) (rest := []) X w hl mi_X9_readSum ml_X9_190 0 sm_n0 sm_k0 rfl ((cg_X9_readSum l D cy ad A Kc C0 N z 40).1 V v1 V65 q64) ⟨⟨rfl, rfl, (by show 43 + 1 ≤ F; omega), (by show 8 + (2 + 11) + 2463 ≤ L; omega)⟩, Nat.le_of_ble_eq_true rfl, Nat.le_of_ble_eq_true rfl⟩ rfl rfl (Nat.le_of_ble_eq_true rfl) dX9_readPlain_130) w (fun H locs w => ?_)
    obtain rfl := Option.some.inj h
    exact m_rv X w hr hlocks dX9_readPlain_133
  have B53 : ∀ (V : Vt) (v1 : Int32), f_X9_readPlain_53 N KR V v1 = some V' → G 53 V [(0, .ref (ad 0)), (1, .int v1)] [] := by
    intro V v1 h
    rw [hG]
    intro H locs ls w hl
    rw [f_X9_readPlain_53] at h
    refine lv_aload_n hx hb dX9_readPlain_53 rfl (lv_at hl 0 rfl) ?_
    obtain ⟨r78, q79, h⟩ := ob1i h
    refine m_ci (m_rV (As := []) (rest := []) X w hl mi_X9_fine ml_X9_174 0 sm_n0 sm_k0 rfl (c_X9_fine l D cy ad A Kc C0 N z V  r78 q79) ⟨⟨rfl, rfl, (by show 0 + 1 ≤ F; omega), (by show 8 + (1 + 11) + 0 ≤ L; omega)⟩, Nat.le_of_ble_eq_true rfl, Nat.le_of_ble_eq_true rfl⟩ rfl rfl (Nat.le_of_ble_eq_true rfl) dX9_readPlain_54) w (fun H locs w => ?_)
    refine lv_if_ne (tgt := 61) hx hb dX9_readPlain_57 (by decide) (fun c80 => ?_) (fun c80 => ?_)
    · replace h := ifF h c80
      refine lv_aload_n hx hb dX9_readPlain_61 rfl (lv_at hl 0 rfl) ?_
      refine lv_dup hx hb dX9_readPlain_62 rfl ?_
      refine m_get X w 0 sm_n0 sm_k0 ci9 19 (by decide) (fvI sm_k0 rfl) rfl fl_X9_178 dX9_readPlain_63 ?_
      refine lv_iconst (v := 1) hx hb dX9_readPlain_66 (by decide) ?_
      refine lv_iadd hx hb dX9_readPlain_67 ?_
      refine m_put X w 0 sm_n0 sm_k0 ci9 19 (by decide) rfl rfl rfl rfl rfl fl_X9_178 dX9_readPlain_68 (fun V81 H locs eV81 w => ?_)
      replace h := bdi h _ eV81
      refine lv_aload_n hx hb dX9_readPlain_71 rfl (lv_at hl 0 rfl) ?_
      refine lv_iload_n hx hb dX9_readPlain_72 rfl (lv_at hl 1 rfl) ?_
      refine lv_iconst (v := 1) hx hb dX9_readPlain_73 (by decide) ?_
      refine lv_iadd hx hb dX9_readPlain_74 ?_
      obtain ⟨V84, q83, h⟩ := obvi h
      refine m_cv (m_rV (As := [.int (v1 + (1 : Int32))]) (rest := []) X w hl mi_X9_readTest ml_X9_197 0 sm_n0 sm_k0 rfl (hKR.1 V81 (v1 + (1 : Int32)) V84 q83) ⟨⟨rfl, rfl, hF, (by show 8 + (2 + 11) + Lk ≤ L; omega)⟩, Nat.le_of_ble_eq_true rfl, Nat.le_of_ble_eq_true rfl⟩ rfl rfl (Nat.le_of_ble_eq_true rfl) dX9_readPlain_75) w (fun H locs w => ?_)
      refine lv_aload_n hx hb dX9_readPlain_78 rfl (lv_at hl 0 rfl) ?_
      refine lv_bipush (v := 41) hx hb dX9_readPlain_79 (by decide) ?_
      obtain ⟨r85, q86, h⟩ := ob1i h
      refine m_ci (m_rS (As := [.int (41 : Int32)]) (rest := [.ref (ad 0)]) X w hl mi_X9_sign ml_X9_220 (c_X9_sign l D cy ad A Kc C0 N z V84 (41 : Int32) r85 q86) ⟨⟨rfl, rfl, (by show 0 + 1 ≤ F; omega), (by show 8 + (1 + 11) + 0 ≤ L; omega)⟩, Nat.le_of_ble_eq_true rfl, Nat.le_of_ble_eq_true rfl⟩ rfl rfl (Nat.le_of_ble_eq_true rfl) dX9_readPlain_81) w (fun H locs w => ?_)
      obtain ⟨V89, q88, h⟩ := obvi h
      refine m_cv (m_rV (As := [.int r85]) (rest := []) X w hl mi_X9_must ml_X9_194 0 sm_n0 sm_k0 rfl (c_X9_must l D cy ad A Kc C0 N z V84 r85 V89 q88) ⟨⟨rfl, rfl, (by show 2 + 1 ≤ F; omega), (by show 8 + (2 + 11) + 42 ≤ L; omega)⟩, Nat.le_of_ble_eq_true rfl, Nat.le_of_ble_eq_true rfl⟩ rfl rfl (Nat.le_of_ble_eq_true rfl) dX9_readPlain_84) w (fun H locs w => ?_)
      refine lv_goto (tgt := 133) hx hb dX9_readPlain_87 (by decide) ?_
      obtain rfl := Option.some.inj h
      exact m_rv X w hr hlocks dX9_readPlain_133
    · replace h := ifT h c80
      obtain rfl := Option.some.inj h
      exact m_rv X w hr hlocks dX9_readPlain_60
  have L2 : ∀ (n2 : Nat) (V : Vt) (v1 : Int32) (v2 : Int32), f_X9_readPlain_2 N KR n2 V v1 v2 = some V' → G 2 V [(0, .ref (ad 0)), (1, .int v1), (2, .int v2)] [] := by
    intro n2
    induction n2 with
    | zero => intro V v1 v2 h; rw [f_X9_readPlain_2] at h; cases h
    | succ n2 ih2 =>
      intro V v1 v2 h
      rw [hG]
      intro H locs ls w hl
      rw [f_X9_readPlain_2] at h
      refine lv_iload_n hx hb dX9_readPlain_2 rfl (lv_at hl 2 rfl) ?_
      refine lv_if_eq (tgt := 16) hx hb dX9_readPlain_3 (by decide) (fun c45 => ?_) (fun c45 => ?_)
      · replace h := ifT h c45
        refine lv_aload_n hx hb dX9_readPlain_16 rfl (lv_at hl 0 rfl) ?_
        obtain ⟨r46, q47, h⟩ := ob1i h
        refine m_ci (m_rV (As := []) (rest := []) X w hl mi_X9_fine ml_X9_174 0 sm_n0 sm_k0 rfl (c_X9_fine l D cy ad A Kc C0 N z V  r46 q47) ⟨⟨rfl, rfl, (by show 0 + 1 ≤ F; omega), (by show 8 + (1 + 11) + 0 ≤ L; omega)⟩, Nat.le_of_ble_eq_true rfl, Nat.le_of_ble_eq_true rfl⟩ rfl rfl (Nat.le_of_ble_eq_true rfl) dX9_readPlain_17) w (fun H locs w => ?_)
        refine lv_if_ne (tgt := 24) hx hb dX9_readPlain_20 (by decide) (fun c48 => ?_) (fun c48 => ?_)
        · replace h := ifF h c48
          refine lv_aload_n hx hb dX9_readPlain_24 rfl (lv_at hl 0 rfl) ?_
          refine m_get X w 0 sm_n0 sm_k0 ci9 15 (by decide) (fvR sm_k0 rfl sm_p15) rfl fl_X9_54 dX9_readPlain_25 ?_
          refine lv_aload_n hx hb dX9_readPlain_28 rfl (lv_at hl 0 rfl) ?_
          refine m_get X w 0 sm_n0 sm_k0 ci9 19 (by decide) (fvI sm_k0 rfl) rfl fl_X9_178 dX9_readPlain_29 ?_
          obtain ⟨g49, h⟩ := cki h
          refine m_iald X w 9 sm_n9 sm_k9 sm_z9 g49 dX9_readPlain_32 ?_
          refine lv_topi (fun x50 ex50 => ?_)
          replace h := bdi h _ ex50
          refine lv_istore_n (lv' := [(3, .int x50), (0, .ref (ad 0)), (1, .int v1), (2, .int v2)]) hx hb dX9_readPlain_33 rfl hl (by decide) rfl (fun ls hl => ?_)
          refine lv_iload_n hx hb dX9_readPlain_34 rfl (lv_at hl 0 rfl) ?_
          refine lv_bipush (v := 40) hx hb dX9_readPlain_35 (by decide) ?_
          obtain ⟨r51, q52, h⟩ := ob1i h
          refine m_ci (m_rS (As := [.int (40 : Int32)]) (rest := [.int x50]) X w hl mi_X9_sign ml_X9_220 (c_X9_sign l D cy ad A Kc C0 N z V (40 : Int32) r51 q52) ⟨⟨rfl, rfl, (by show 0 + 1 ≤ F; omega), (by show 8 + (1 + 11) + 0 ≤ L; omega)⟩, Nat.le_of_ble_eq_true rfl, Nat.le_of_ble_eq_true rfl⟩ rfl rfl (Nat.le_of_ble_eq_true rfl) dX9_readPlain_37) w (fun H locs w => ?_)
          refine lv_icmp_ne (tgt := 90) hx hb dX9_readPlain_40 (by decide) (fun c53 => ?_) (fun c53 => ?_)
          · replace h := ifF h c53
            refine lv_aload_n hx hb dX9_readPlain_90 rfl (lv_at hl 1 rfl) ?_
            refine lv_iload_n hx hb dX9_readPlain_91 rfl (lv_at hl 2 rfl) ?_
            obtain ⟨V56, q55, h⟩ := obvi h
            refine m_cv (m_rV (As := [.int v1]) (rest := []) X w hl mi_X9_readSum ml_X9_190 0 sm_n0 sm_k0 rfl ((cg_X9_readSum l D cy ad A Kc C0 N z 40).1 V v1 V56 q55) ⟨⟨rfl, rfl, (by show 43 + 1 ≤ F; omega), (by show 8 + (2 + 11) + 2463 ≤ L; omega)⟩, Nat.le_of_ble_eq_true rfl, Nat.le_of_ble_eq_true rfl⟩ rfl rfl (Nat.le_of_ble_eq_true rfl) dX9_readPlain_92) w (fun H locs w => ?_)
            refine lv_aload_n hx hb dX9_readPlain_95 rfl (lv_at hl 1 rfl) ?_
            refine lv_bipush (v := 60) hx hb dX9_readPlain_96 (by decide) ?_
            obtain ⟨r57, q58, h⟩ := ob1i h
            refine m_ci (m_rS (As := [.int (60 : Int32)]) (rest := [.ref (ad 0)]) X w hl mi_X9_sign ml_X9_220 (c_X9_sign l D cy ad A Kc C0 N z V56 (60 : Int32) r57 q58) ⟨⟨rfl, rfl, (by show 0 + 1 ≤ F; omega), (by show 8 + (1 + 11) + 0 ≤ L; omega)⟩, Nat.le_of_ble_eq_true rfl, Nat.le_of_ble_eq_true rfl⟩ rfl rfl (Nat.le_of_ble_eq_true rfl) dX9_readPlain_98) w (fun H locs w => ?_)
            obtain ⟨r59, V61, q60, h⟩ := obi h
            refine m_ci (m_rV (As := [.int r57]) (rest := []) X w hl mi_X9_takes0 ml_X9_181 0 sm_n0 sm_k0 rfl (c_X9_takes0 l D cy ad A Kc C0 N z V56 r57 r59 V61 q60) ⟨⟨rfl, rfl, (by show 1 + 1 ≤ F; omega), (by show 8 + (3 + 11) + 20 ≤ L; omega)⟩, Nat.le_of_ble_eq_true rfl, Nat.le_of_ble_eq_true rfl⟩ rfl rfl (Nat.le_of_ble_eq_true rfl) dX9_readPlain_101) w (fun H locs w => ?_)
            refine lv_if_ne (tgt := 128) hx hb dX9_readPlain_104 (by decide) (fun c62 => ?_) (fun c62 => ?_)
            · replace h := ifF h c62
              have g := B128 V61 v1 h
              rw [hG] at g
              exact g H locs ls w (lv_sub hl [1, 2] rfl)
            · replace h := ifT h c62
              refine lv_aload_n hx hb dX9_readPlain_107 rfl (lv_at hl 1 rfl) ?_
              refine lv_bipush (v := 62) hx hb dX9_readPlain_108 (by decide) ?_
              obtain ⟨r66, q67, h⟩ := ob1i h
              refine m_ci (m_rS (As := [.int (62 : Int32)]) (rest := [.ref (ad 0)]) X w hl mi_X9_sign ml_X9_220 (c_X9_sign l D cy ad A Kc C0 N z V61 (62 : Int32) r66 q67) ⟨⟨rfl, rfl, (by show 0 + 1 ≤ F; omega), (by show 8 + (1 + 11) + 0 ≤ L; omega)⟩, Nat.le_of_ble_eq_true rfl, Nat.le_of_ble_eq_true rfl⟩ rfl rfl (Nat.le_of_ble_eq_true rfl) dX9_readPlain_110) w (fun H locs w => ?_)
              obtain ⟨r68, V70, q69, h⟩ := obi h
              refine m_ci (m_rV (As := [.int r66]) (rest := []) X w hl mi_X9_takes0 ml_X9_181 0 sm_n0 sm_k0 rfl (c_X9_takes0 l D cy ad A Kc C0 N z V61 r66 r68 V70 q69) ⟨⟨rfl, rfl, (by show 1 + 1 ≤ F; omega), (by show 8 + (3 + 11) + 20 ≤ L; omega)⟩, Nat.le_of_ble_eq_true rfl, Nat.le_of_ble_eq_true rfl⟩ rfl rfl (Nat.le_of_ble_eq_true rfl) dX9_readPlain_113) w (fun H locs w => ?_)
              refine lv_if_ne (tgt := 128) hx hb dX9_readPlain_116 (by decide) (fun c71 => ?_) (fun c71 => ?_)
              · replace h := ifF h c71
                have g := B128 V70 v1 h
                rw [hG] at g
                exact g H locs ls w (lv_sub hl [1, 2] rfl)
              · replace h := ifT h c71
                refine lv_aload_n hx hb dX9_readPlain_119 rfl (lv_at hl 1 rfl) ?_
                refine lv_bipush (v := 61) hx hb dX9_readPlain_120 (by decide) ?_
                obtain ⟨r72, q73, h⟩ := ob1i h
                refine m_ci (m_rS (As := [.int (61 : Int32)]) (rest := [.ref (ad 0)]) X w hl mi_X9_sign ml_X9_220 (c_X9_sign l D cy ad A Kc C0 N z V70 (61 : Int32) r72 q73) ⟨⟨rfl, rfl, (by show 0 + 1 ≤ F; omega), (by show 8 + (1 + 11) + 0 ≤ L; omega)⟩, Nat.le_of_ble_eq_true rfl, Nat.le_of_ble_eq_true rfl⟩ rfl rfl (Nat.le_of_ble_eq_true rfl) dX9_readPlain_122) w (fun H locs w => ?_)
                obtain ⟨V76, q75, h⟩ := obvi h
                refine m_cv (m_rV (As := [.int r72]) (rest := []) X w hl mi_X9_must ml_X9_194 0 sm_n0 sm_k0 rfl (c_X9_must l D cy ad A Kc C0 N z V70 r72 V76 q75) ⟨⟨rfl, rfl, (by show 2 + 1 ≤ F; omega), (by show 8 + (2 + 11) + 42 ≤ L; omega)⟩, Nat.le_of_ble_eq_true rfl, Nat.le_of_ble_eq_true rfl⟩ rfl rfl (Nat.le_of_ble_eq_true rfl) dX9_readPlain_125) w (fun H locs w => ?_)
                have g := B128 V76 v1 h
                rw [hG] at g
                exact g H locs ls w (lv_sub hl [1, 2] rfl)
          · replace h := ifT h c53
            refine lv_iload_n hx hb dX9_readPlain_43 rfl (lv_at hl 2 rfl) ?_
            refine lv_bipush (v := 8) hx hb dX9_readPlain_44 (by decide) ?_
            refine lv_icmp_ne (tgt := 53) hx hb dX9_readPlain_46 (by decide) (fun c77 => ?_) (fun c77 => ?_)
            · replace h := ifF h c77
              have g := B53 V v1 h
              rw [hG] at g
              exact g H locs ls w (lv_sub hl [1, 2] rfl)
            · replace h := ifT h c77
              refine lv_aload_n hx hb dX9_readPlain_49 rfl (lv_at hl 1 rfl) ?_
              obtain ⟨V92, q91, h⟩ := obvi h
              refine m_cv (m_rV (As := []) (rest := []) X w hl mi_X9_faults ml_X9_184 0 sm_n0 sm_k0 rfl (c_X9_faults l D cy ad A Kc C0 N z V  V92 q91) ⟨⟨rfl, rfl, (by show 1 + 1 ≤ F; omega), (by show 8 + (1 + 11) + 20 ≤ L; omega)⟩, Nat.le_of_ble_eq_true rfl, Nat.le_of_ble_eq_true rfl⟩ rfl rfl (Nat.le_of_ble_eq_true rfl) dX9_readPlain_50) w (fun H locs w => ?_)
              have g := B53 V92 v1 h
              rw [hG] at g
              exact g H locs ls w (lv_sub hl [1, 2] rfl)
        · replace h := ifT h c48
          obtain rfl := Option.some.inj h
          exact m_rv X w hr hlocks dX9_readPlain_23
      · replace h := ifF h c45
        refine lv_aload_n hx hb dX9_readPlain_6 rfl (lv_at hl 0 rfl) ?_
        refine lv_bipush (v := 8) hx hb dX9_readPlain_7 (by decide) ?_
        obtain ⟨r93, V95, q94, h⟩ := obi h
        refine m_ci (m_rV (As := [.int (8 : Int32)]) (rest := []) X w hl mi_X9_takes0 ml_X9_181 0 sm_n0 sm_k0 rfl (c_X9_takes0 l D cy ad A Kc C0 N z V (8 : Int32) r93 V95 q94) ⟨⟨rfl, rfl, (by show 1 + 1 ≤ F; omega), (by show 8 + (3 + 11) + 20 ≤ L; omega)⟩, Nat.le_of_ble_eq_true rfl, Nat.le_of_ble_eq_true rfl⟩ rfl rfl (Nat.le_of_ble_eq_true rfl) dX9_readPlain_9) w (fun H locs w => ?_)
        refine lv_istore_n (lv' := [(2, .int r93), (0, .ref (ad 0)), (1, .int v1)]) hx hb dX9_readPlain_12 rfl hl (by decide) rfl (fun ls hl => ?_)
        refine lv_goto (tgt := 2) hx hb dX9_readPlain_13 (by decide) ?_
        have g := ih2 V95 v1 r93 h
        rw [hG] at g
        exact g H locs ls w (lv_sub hl [1, 2, 0] rfl)
  rw [f_X9_readPlain] at h
  refine lv_iconst (v := 1) hx hb dX9_readPlain_0 (by decide) ?_
  refine lv_istore_n (lv' := [(2, .int (1 : Int32)), (0, .ref (ad 0)), (1, .int a1)]) hx hb dX9_readPlain_1 rfl hl (by decide) rfl (fun ls hl => ?_)
  have g := L2 N V a1 (1 : Int32) h
  rw [hG] at g
  exact g H locs ls w (lv_sub hl [1, 2, 0] rfl)
def g_X9_readTest (N : Nat) : Nat → Nat → Vt → Int32 → Option Vt
  | 0, _, _, _ => none
  | d + 1, t, V, a => if t = 0 then f_X9_readTest N (g_X9_readTest N d) V a else if t = 1 then f_X9_readBoth N (g_X9_readTest N d) V a else f_X9_readPlain N (g_X9_readTest N d) V a
theorem cg_X9_readTest (l : Launch) (D : va_G) (cy : Nat → ClassId) (ad : Nat → Nat) (A : Nat → Prop) (Kc : State → Prop) (C0 : Cx ad A Kc) (N z : Nat) : ∀ d : Nat, RH_X9_readTest l D cy ad A Kc z (g_X9_readTest N d) (44 + d) (2484 + 60 * d) := by
  intro d
  induction d with
  | zero => exact ⟨(fun V a1 V' h => by rw [g_X9_readTest] at h; cases h), (fun V a1 V' h => by rw [g_X9_readTest] at h; cases h), (fun V a1 V' h => by rw [g_X9_readTest] at h; cases h)⟩
  | succ d ih =>
    exact ⟨(fun V a1 V' h => c_X9_readTest l D cy ad A Kc C0 N (g_X9_readTest N d) z (44 + d) (2484 + 60 * d) (44 + (d + 1)) (2484 + 60 * (d + 1)) (by omega) (by omega) (by omega) (by omega) ih V a1 V' (by rw [g_X9_readTest] at h; exact (ifT h rfl))), (fun V a1 V' h => c_X9_readBoth l D cy ad A Kc C0 N (g_X9_readTest N d) z (44 + d) (2484 + 60 * d) (44 + (d + 1)) (2484 + 60 * (d + 1)) (by omega) (by omega) (by omega) (by omega) ih V a1 V' (by rw [g_X9_readTest] at h; exact (ifT (ifF h (by decide)) rfl))), (fun V a1 V' h => c_X9_readPlain l D cy ad A Kc C0 N (g_X9_readTest N d) z (44 + d) (2484 + 60 * d) (44 + (d + 1)) (2484 + 60 * (d + 1)) (by omega) (by omega) (by omega) (by omega) ih V a1 V' (by rw [g_X9_readTest] at h; exact (ifF (ifF h (by decide)) (by decide))))⟩
abbrev RH_X9_testOf (l : Launch) (D : va_G) (cy : Nat → ClassId) (ad : Nat → Nat) (A : Nat → Prop) (Kc : State → Prop) (z : Nat) (KR : Nat → Vt → Int32 → Option (Int32 × Vt)) (F L : Nat) : Prop := (∀ (V : Vt) (a1 : Int32) (r : Int32) (V' : Vt), KR 0 V a1 = some (r, V') → Met l yX9_testOf (mw yX9_testOf cX9_testOf 4 (some .boolean)) { frames := F, cells := 0, slots := 0, locals := L } (PreM D cy ad Kc (SM z) V [.ref (ad 0), .int a1]) (QI D cy ad A r (SM z) V') 0 0 A) ∧ (∀ (V : Vt) (a1 : Int32) (r : Int32) (V' : Vt), KR 1 V a1 = some (r, V') → Met l yX9_bothOf (mw yX9_bothOf cX9_bothOf 4 (some .boolean)) { frames := F, cells := 0, slots := 0, locals := L } (PreM D cy ad Kc (SM z) V [.ref (ad 0), .int a1]) (QI D cy ad A r (SM z) V') 0 0 A) ∧ (∀ (V : Vt) (a1 : Int32) (r : Int32) (V' : Vt), KR 2 V a1 = some (r, V') → Met l yX9_plainOf (mw yX9_plainOf cX9_plainOf 3 (some .boolean)) { frames := F, cells := 0, slots := 0, locals := L } (PreM D cy ad Kc (SM z) V [.ref (ad 0), .int a1]) (QI D cy ad A r (SM z) V') 0 0 A) ∧ (∀ (V : Vt) (a1 : Int32) (r : Int32) (V' : Vt), KR 3 V a1 = some (r, V') → Met l yX9_positiveOf (mw yX9_positiveOf cX9_positiveOf 7 (some .boolean)) { frames := F, cells := 0, slots := 0, locals := L } (PreM D cy ad Kc (SM z) V [.ref (ad 0), .int a1]) (QI D cy ad A r (SM z) V') 0 0 A)
def f_X9_testOf_46 (N : Nat) (KR : Nat → Vt → Int32 → Option (Int32 × Vt)) (K6 : Vt → Int32 → Int32 → Option (Int32 × Vt)) (V : Vt) (v1 : Int32) (s0 : Int32) : Option (Int32 × Vt) := K6 V v1 s0
def f_X9_testOf_41 (N : Nat) (KR : Nat → Vt → Int32 → Option (Int32 × Vt)) (K6 : Vt → Int32 → Int32 → Option (Int32 × Vt)) (V : Vt) (v1 : Int32) : Option (Int32 × Vt) := f_X9_testOf_46 N KR K6 V v1 (1 : Int32)
def f_X9_testOf_29 (N : Nat) (KR : Nat → Vt → Int32 → Option (Int32 × Vt)) (K6 : Vt → Int32 → Int32 → Option (Int32 × Vt)) (V : Vt) (v1 : Int32) (v2 : Int32) (s0 : Int32) : Option (Int32 × Vt) := ob (KR 1 V s0) (fun r19 V21 => if v2 = 0 then if r19 = 0 then f_X9_testOf_46 N KR K6 V21 v1 (0 : Int32) else f_X9_testOf_41 N KR K6 V21 v1 else f_X9_testOf_41 N KR K6 V21 v1)
def f_X9_testOf_28 (N : Nat) (KR : Nat → Vt → Int32 → Option (Int32 × Vt)) (K6 : Vt → Int32 → Int32 → Option (Int32 × Vt)) (V : Vt) (v1 : Int32) (v2 : Int32) : Option (Int32 × Vt) := f_X9_testOf_29 N KR K6 V v1 v2 (0 : Int32)
def f_X9_testOf_6 (N : Nat) (KR : Nat → Vt → Int32 → Option (Int32 × Vt)) : Nat → Vt → Int32 → Int32 → Option (Int32 × Vt)
  | 0, _, _, _ => none
  | n + 1, V, v1, v2 => ob (f_X9_passes0 N V (6 : Int32)) (fun r13 V15 => if r13 = 0 then cb v2 (some (v2, V15)) else if v1 = 0 then f_X9_testOf_28 N KR (f_X9_testOf_6 N KR n) V15 v1 v2 else if v2 = 0 then f_X9_testOf_29 N KR (f_X9_testOf_6 N KR n) V15 v1 v2 (1 : Int32) else f_X9_testOf_28 N KR (f_X9_testOf_6 N KR n) V15 v1 v2)
def f_X9_testOf (N : Nat) (KR : Nat → Vt → Int32 → Option (Int32 × Vt)) (V : Vt) (a1 : Int32) : Option (Int32 × Vt) := ob (KR 1 V a1) (fun r10 V12 => f_X9_testOf_6 N KR N V12 a1 r10)
set_option maxHeartbeats 4000000 in
set_option maxRecDepth 100000 in
theorem c_X9_testOf (l : Launch) (D : va_G) (cy : Nat → ClassId) (ad : Nat → Nat) (A : Nat → Prop) (Kc : State → Prop) (C0 : Cx ad A Kc) (N : Nat) (KR : Nat → Vt → Int32 → Option (Int32 × Vt)) (z Fk Lk F L : Nat) (hF : Fk + 1 ≤ F) (hL : Lk + 60 ≤ L) (hF0 : 44 ≤ F) (hL0 : 2491 ≤ L) (hKR : RH_X9_testOf l D cy ad A Kc z KR Fk Lk) (V : Vt) (a1 : Int32) (r : Int32) (V' : Vt) (h : f_X9_testOf N KR V a1 = some (r, V')) : Met l yX9_testOf (mw yX9_testOf cX9_testOf 4 (some .boolean)) { frames := F, cells := 0, slots := 0, locals := L } (PreM D cy ad Kc (SM z) V [.ref (ad 0), .int a1]) (QI D cy ad A r (SM z) V') 0 0 A := by
  refine ct_go C0 (own := RX9) rfl (by decide) rfl ?_
  intro p e s m below meth c ls H locs X hr hlocks hnm hl w
  have hx := X.1.1
  have hb := X.1.2.1
  have hown := X.2.1
  have hts := X.2.2.1
  have hl : lv_has ls 4 [(0, .ref (ad 0)), (1, .int a1)] := hl
  obtain ⟨G, hG⟩ : ∃ G : Nat → Vt → List (Nat × Value) → List Value → Prop, G = fun pc V lv st => ∀ (H : Heap) (locs : List Loc) (ls : Array Slot), Wd D cy ad A s.heap (SM z) V H locs → lv_has ls 4 lv → W p l e { frames := F, cells := 0, slots := 0, locals := L } s m ([.ref (ad 0), .int a1] : List Value).toArray below meth c H locs 0 0 (MQ below (QI D cy ad A r (SM z) V') ([.ref (ad 0), .int a1] : List Value).toArray s 0 0 A) (F0 m pc ls st) := ⟨_, rfl⟩
  have L6 : ∀ (n6 : Nat) (V : Vt) (v1 : Int32) (v2 : Int32), f_X9_testOf_6 N KR n6 V v1 v2 = some (r, V') → G 6 V [(0, .ref (ad 0)), (1, .int v1), (2, .int v2)] [] := by
    intro n6
    induction n6 with
    | zero => intro V v1 v2 h; rw [f_X9_testOf_6] at h; cases h
    | succ n6 ih6 =>
      have B46 : ∀ (V : Vt) (v1 : Int32) (s0 : Int32), f_X9_testOf_46 N KR (f_X9_testOf_6 N KR n6) V v1 s0 = some (r, V') → G 46 V [(0, .ref (ad 0)), (1, .int v1)] [.int s0] := by
        intro V v1 s0 h
        rw [hG]
        intro H locs ls w hl
        rw [f_X9_testOf_46] at h
        refine lv_istore_n (lv' := [(2, .int s0), (0, .ref (ad 0)), (1, .int v1)]) hx hb dX9_testOf_46 rfl hl (by decide) rfl (fun ls hl => ?_)
        refine lv_goto (tgt := 6) hx hb dX9_testOf_47 (by decide) ?_
        have g := ih6 V v1 s0 h
        rw [hG] at g
        exact g H locs ls w (lv_sub hl [1, 2, 0] rfl)
      have B41 : ∀ (V : Vt) (v1 : Int32), f_X9_testOf_41 N KR (f_X9_testOf_6 N KR n6) V v1 = some (r, V') → G 41 V [(0, .ref (ad 0)), (1, .int v1)] [] := by
        intro V v1 h
        rw [hG]
        intro H locs ls w hl
        rw [f_X9_testOf_41] at h
        refine lv_iconst (v := 1) hx hb dX9_testOf_41 (by decide) ?_
        refine lv_goto (tgt := 46) hx hb dX9_testOf_42 (by decide) ?_
        have g := B46 V v1 (1 : Int32) h
        rw [hG] at g
        exact g H locs ls w (lv_sub hl [0, 1] rfl)
      have B29 : ∀ (V : Vt) (v1 : Int32) (v2 : Int32) (s0 : Int32), f_X9_testOf_29 N KR (f_X9_testOf_6 N KR n6) V v1 v2 s0 = some (r, V') → G 29 V [(0, .ref (ad 0)), (1, .int v1), (2, .int v2)] [.int s0, .ref (ad 0)] := by
        intro V v1 v2 s0 h
        rw [hG]
        intro H locs ls w hl
        rw [f_X9_testOf_29] at h
        obtain ⟨r19, V21, q20, h⟩ := obi h
        refine m_ci (m_rV (As := [.int s0]) (rest := []) X w hl mi_X9_bothOf ml_X9_300 0 sm_n0 sm_k0 rfl (hKR.2.1 V s0 r19 V21 q20) ⟨⟨rfl, rfl, hF, (by show 8 + (4 + 11) + Lk ≤ L; omega)⟩, Nat.le_of_ble_eq_true rfl, Nat.le_of_ble_eq_true rfl⟩ rfl rfl (Nat.le_of_ble_eq_true rfl) dX9_testOf_29) w (fun H locs w => ?_)
        refine lv_istore_n (lv' := [(3, .int r19), (0, .ref (ad 0)), (1, .int v1), (2, .int v2)]) hx hb dX9_testOf_32 rfl hl (by decide) rfl (fun ls hl => ?_)
        refine lv_iload_n hx hb dX9_testOf_33 rfl (lv_at hl 3 rfl) ?_
        refine lv_if_ne (tgt := 41) hx hb dX9_testOf_34 (by decide) (fun c22 => ?_) (fun c22 => ?_)
        · replace h := ifF h c22
          have g := B41 V21 v1 h
          rw [hG] at g
          exact g H locs ls w (lv_sub hl [1, 2] rfl)
        · replace h := ifT h c22
          refine lv_iload_n hx hb dX9_testOf_37 rfl (lv_at hl 0 rfl) ?_
          refine lv_if_eq (tgt := 45) hx hb dX9_testOf_38 (by decide) (fun c23 => ?_) (fun c23 => ?_)
          · replace h := ifT h c23
            refine lv_iconst (v := 0) hx hb dX9_testOf_45 (by decide) ?_
            have g := B46 V21 v1 (0 : Int32) h
            rw [hG] at g
            exact g H locs ls w (lv_sub hl [1, 2] rfl)
          · replace h := ifF h c23
            have g := B41 V21 v1 h
            rw [hG] at g
            exact g H locs ls w (lv_sub hl [1, 2] rfl)
      have B28 : ∀ (V : Vt) (v1 : Int32) (v2 : Int32), f_X9_testOf_28 N KR (f_X9_testOf_6 N KR n6) V v1 v2 = some (r, V') → G 28 V [(0, .ref (ad 0)), (1, .int v1), (2, .int v2)] [.ref (ad 0)] := by
        intro V v1 v2 h
        rw [hG]
        intro H locs ls w hl
        rw [f_X9_testOf_28] at h
        refine lv_iconst (v := 0) hx hb dX9_testOf_28 (by decide) ?_
        have g := B29 V v1 v2 (0 : Int32) h
        rw [hG] at g
        exact g H locs ls w (lv_sub hl [0, 1, 2] rfl)
      intro V v1 v2 h
      rw [hG]
      intro H locs ls w hl
      rw [f_X9_testOf_6] at h
      refine lv_aload_n hx hb dX9_testOf_6 rfl (lv_at hl 0 rfl) ?_
      refine lv_bipush (v := 6) hx hb dX9_testOf_7 (by decide) ?_
      obtain ⟨r13, V15, q14, h⟩ := obi h
      refine m_ci (m_rV (As := [.int (6 : Int32)]) (rest := []) X w hl mi_X9_passes0 ml_X9_282 0 sm_n0 sm_k0 rfl (c_X9_passes0 l D cy ad A Kc C0 N z V (6 : Int32) r13 V15 q14) ⟨⟨rfl, rfl, (by show 1 + 1 ≤ F; omega), (by show 8 + (3 + 11) + 21 ≤ L; omega)⟩, Nat.le_of_ble_eq_true rfl, Nat.le_of_ble_eq_true rfl⟩ rfl rfl (Nat.le_of_ble_eq_true rfl) dX9_testOf_9) w (fun H locs w => ?_)
      refine lv_if_eq (tgt := 50) hx hb dX9_testOf_12 (by decide) (fun c16 => ?_) (fun c16 => ?_)
      · replace h := ifT h c16
        refine lv_iload_n hx hb dX9_testOf_50 rfl (lv_at hl 2 rfl) ?_
        obtain ⟨g17, h⟩ := cbi h
        obtain ⟨rfl, rfl⟩ := reti h
        exact m_rz X w hr (nb01 g17) hlocks dX9_testOf_51
      · replace h := ifF h c16
        refine lv_aload_n hx hb dX9_testOf_15 rfl (lv_at hl 0 rfl) ?_
        refine lv_iload_n hx hb dX9_testOf_16 rfl (lv_at hl 1 rfl) ?_
        refine lv_if_eq (tgt := 28) hx hb dX9_testOf_17 (by decide) (fun c18 => ?_) (fun c18 => ?_)
        · replace h := ifT h c18
          have g := B28 V15 v1 v2 h
          rw [hG] at g
          exact g H locs ls w (lv_sub hl [0, 1, 2] rfl)
        · replace h := ifF h c18
          refine lv_iload_n hx hb dX9_testOf_20 rfl (lv_at hl 2 rfl) ?_
          refine lv_if_ne (tgt := 28) hx hb dX9_testOf_21 (by decide) (fun c24 => ?_) (fun c24 => ?_)
          · replace h := ifF h c24
            have g := B28 V15 v1 v2 h
            rw [hG] at g
            exact g H locs ls w (lv_sub hl [0, 1, 2] rfl)
          · replace h := ifT h c24
            refine lv_iconst (v := 1) hx hb dX9_testOf_24 (by decide) ?_
            refine lv_goto (tgt := 29) hx hb dX9_testOf_25 (by decide) ?_
            have g := B29 V15 v1 v2 (1 : Int32) h
            rw [hG] at g
            exact g H locs ls w (lv_sub hl [0, 1, 2] rfl)
  rw [f_X9_testOf] at h
  refine lv_aload_n hx hb dX9_testOf_0 rfl (lv_at hl 0 rfl) ?_
  refine lv_iload_n hx hb dX9_testOf_1 rfl (lv_at hl 1 rfl) ?_
  obtain ⟨r10, V12, q11, h⟩ := obi h
  refine m_ci (m_rV (As := [.int a1]) (rest := []) X w hl mi_X9_bothOf ml_X9_300 0 sm_n0 sm_k0 rfl (hKR.2.1 V a1 r10 V12 q11) ⟨⟨rfl, rfl, hF, (by show 8 + (4 + 11) + Lk ≤ L; omega)⟩, Nat.le_of_ble_eq_true rfl, Nat.le_of_ble_eq_true rfl⟩ rfl rfl (Nat.le_of_ble_eq_true rfl) dX9_testOf_2) w (fun H locs w => ?_)
  refine lv_istore_n (lv' := [(2, .int r10), (0, .ref (ad 0)), (1, .int a1)]) hx hb dX9_testOf_5 rfl hl (by decide) rfl (fun ls hl => ?_)
  have g := L6 N V12 a1 r10 h
  rw [hG] at g
  exact g H locs ls w (lv_sub hl [1, 2, 0] rfl)
def f_X9_bothOf_46 (N : Nat) (KR : Nat → Vt → Int32 → Option (Int32 × Vt)) (K6 : Vt → Int32 → Int32 → Option (Int32 × Vt)) (V : Vt) (v1 : Int32) (s0 : Int32) : Option (Int32 × Vt) := K6 V v1 s0
def f_X9_bothOf_45 (N : Nat) (KR : Nat → Vt → Int32 → Option (Int32 × Vt)) (K6 : Vt → Int32 → Int32 → Option (Int32 × Vt)) (V : Vt) (v1 : Int32) : Option (Int32 × Vt) := f_X9_bothOf_46 N KR K6 V v1 (0 : Int32)
def f_X9_bothOf_29 (N : Nat) (KR : Nat → Vt → Int32 → Option (Int32 × Vt)) (K6 : Vt → Int32 → Int32 → Option (Int32 × Vt)) (V : Vt) (v1 : Int32) (v2 : Int32) (s0 : Int32) : Option (Int32 × Vt) := ob (KR 2 V s0) (fun r19 V21 => if v2 = 0 then f_X9_bothOf_45 N KR K6 V21 v1 else if r19 = 0 then f_X9_bothOf_45 N KR K6 V21 v1 else f_X9_bothOf_46 N KR K6 V21 v1 (1 : Int32))
def f_X9_bothOf_28 (N : Nat) (KR : Nat → Vt → Int32 → Option (Int32 × Vt)) (K6 : Vt → Int32 → Int32 → Option (Int32 × Vt)) (V : Vt) (v1 : Int32) (v2 : Int32) : Option (Int32 × Vt) := f_X9_bothOf_29 N KR K6 V v1 v2 (0 : Int32)
def f_X9_bothOf_6 (N : Nat) (KR : Nat → Vt → Int32 → Option (Int32 × Vt)) : Nat → Vt → Int32 → Int32 → Option (Int32 × Vt)
  | 0, _, _, _ => none
  | n + 1, V, v1, v2 => ob (f_X9_passes0 N V (7 : Int32)) (fun r13 V15 => if r13 = 0 then cb v2 (some (v2, V15)) else if v1 = 0 then f_X9_bothOf_28 N KR (f_X9_bothOf_6 N KR n) V15 v1 v2 else if v2 = 0 then f_X9_bothOf_28 N KR (f_X9_bothOf_6 N KR n) V15 v1 v2 else f_X9_bothOf_29 N KR (f_X9_bothOf_6 N KR n) V15 v1 v2 (1 : Int32))
def f_X9_bothOf (N : Nat) (KR : Nat → Vt → Int32 → Option (Int32 × Vt)) (V : Vt) (a1 : Int32) : Option (Int32 × Vt) := ob (KR 2 V a1) (fun r10 V12 => f_X9_bothOf_6 N KR N V12 a1 r10)
set_option maxHeartbeats 4000000 in
set_option maxRecDepth 100000 in
theorem c_X9_bothOf (l : Launch) (D : va_G) (cy : Nat → ClassId) (ad : Nat → Nat) (A : Nat → Prop) (Kc : State → Prop) (C0 : Cx ad A Kc) (N : Nat) (KR : Nat → Vt → Int32 → Option (Int32 × Vt)) (z Fk Lk F L : Nat) (hF : Fk + 1 ≤ F) (hL : Lk + 60 ≤ L) (hF0 : 44 ≤ F) (hL0 : 2491 ≤ L) (hKR : RH_X9_testOf l D cy ad A Kc z KR Fk Lk) (V : Vt) (a1 : Int32) (r : Int32) (V' : Vt) (h : f_X9_bothOf N KR V a1 = some (r, V')) : Met l yX9_bothOf (mw yX9_bothOf cX9_bothOf 4 (some .boolean)) { frames := F, cells := 0, slots := 0, locals := L } (PreM D cy ad Kc (SM z) V [.ref (ad 0), .int a1]) (QI D cy ad A r (SM z) V') 0 0 A := by
  refine ct_go C0 (own := RX9) rfl (by decide) rfl ?_
  intro p e s m below meth c ls H locs X hr hlocks hnm hl w
  have hx := X.1.1
  have hb := X.1.2.1
  have hown := X.2.1
  have hts := X.2.2.1
  have hl : lv_has ls 4 [(0, .ref (ad 0)), (1, .int a1)] := hl
  obtain ⟨G, hG⟩ : ∃ G : Nat → Vt → List (Nat × Value) → List Value → Prop, G = fun pc V lv st => ∀ (H : Heap) (locs : List Loc) (ls : Array Slot), Wd D cy ad A s.heap (SM z) V H locs → lv_has ls 4 lv → W p l e { frames := F, cells := 0, slots := 0, locals := L } s m ([.ref (ad 0), .int a1] : List Value).toArray below meth c H locs 0 0 (MQ below (QI D cy ad A r (SM z) V') ([.ref (ad 0), .int a1] : List Value).toArray s 0 0 A) (F0 m pc ls st) := ⟨_, rfl⟩
  have L6 : ∀ (n6 : Nat) (V : Vt) (v1 : Int32) (v2 : Int32), f_X9_bothOf_6 N KR n6 V v1 v2 = some (r, V') → G 6 V [(0, .ref (ad 0)), (1, .int v1), (2, .int v2)] [] := by
    intro n6
    induction n6 with
    | zero => intro V v1 v2 h; rw [f_X9_bothOf_6] at h; cases h
    | succ n6 ih6 =>
      have B46 : ∀ (V : Vt) (v1 : Int32) (s0 : Int32), f_X9_bothOf_46 N KR (f_X9_bothOf_6 N KR n6) V v1 s0 = some (r, V') → G 46 V [(0, .ref (ad 0)), (1, .int v1)] [.int s0] := by
        intro V v1 s0 h
        rw [hG]
        intro H locs ls w hl
        rw [f_X9_bothOf_46] at h
        refine lv_istore_n (lv' := [(2, .int s0), (0, .ref (ad 0)), (1, .int v1)]) hx hb dX9_bothOf_46 rfl hl (by decide) rfl (fun ls hl => ?_)
        refine lv_goto (tgt := 6) hx hb dX9_bothOf_47 (by decide) ?_
        have g := ih6 V v1 s0 h
        rw [hG] at g
        exact g H locs ls w (lv_sub hl [1, 2, 0] rfl)
      have B45 : ∀ (V : Vt) (v1 : Int32), f_X9_bothOf_45 N KR (f_X9_bothOf_6 N KR n6) V v1 = some (r, V') → G 45 V [(0, .ref (ad 0)), (1, .int v1)] [] := by
        intro V v1 h
        rw [hG]
        intro H locs ls w hl
        rw [f_X9_bothOf_45] at h
        refine lv_iconst (v := 0) hx hb dX9_bothOf_45 (by decide) ?_
        have g := B46 V v1 (0 : Int32) h
        rw [hG] at g
        exact g H locs ls w (lv_sub hl [0, 1] rfl)
      have B29 : ∀ (V : Vt) (v1 : Int32) (v2 : Int32) (s0 : Int32), f_X9_bothOf_29 N KR (f_X9_bothOf_6 N KR n6) V v1 v2 s0 = some (r, V') → G 29 V [(0, .ref (ad 0)), (1, .int v1), (2, .int v2)] [.int s0, .ref (ad 0)] := by
        intro V v1 v2 s0 h
        rw [hG]
        intro H locs ls w hl
        rw [f_X9_bothOf_29] at h
        obtain ⟨r19, V21, q20, h⟩ := obi h
        refine m_ci (m_rV (As := [.int s0]) (rest := []) X w hl mi_X9_plainOf ml_X9_303 0 sm_n0 sm_k0 rfl (hKR.2.2.1 V s0 r19 V21 q20) ⟨⟨rfl, rfl, hF, (by show 8 + (3 + 11) + Lk ≤ L; omega)⟩, Nat.le_of_ble_eq_true rfl, Nat.le_of_ble_eq_true rfl⟩ rfl rfl (Nat.le_of_ble_eq_true rfl) dX9_bothOf_29) w (fun H locs w => ?_)
        refine lv_istore_n (lv' := [(3, .int r19), (0, .ref (ad 0)), (1, .int v1), (2, .int v2)]) hx hb dX9_bothOf_32 rfl hl (by decide) rfl (fun ls hl => ?_)
        refine lv_iload_n hx hb dX9_bothOf_33 rfl (lv_at hl 3 rfl) ?_
        refine lv_if_eq (tgt := 45) hx hb dX9_bothOf_34 (by decide) (fun c22 => ?_) (fun c22 => ?_)
        · replace h := ifT h c22
          have g := B45 V21 v1 h
          rw [hG] at g
          exact g H locs ls w (lv_sub hl [1, 2] rfl)
        · replace h := ifF h c22
          refine lv_iload_n hx hb dX9_bothOf_37 rfl (lv_at hl 0 rfl) ?_
          refine lv_if_eq (tgt := 45) hx hb dX9_bothOf_38 (by decide) (fun c23 => ?_) (fun c23 => ?_)
          · replace h := ifT h c23
            have g := B45 V21 v1 h
            rw [hG] at g
            exact g H locs ls w (lv_sub hl [1, 2] rfl)
          · replace h := ifF h c23
            refine lv_iconst (v := 1) hx hb dX9_bothOf_41 (by decide) ?_
            refine lv_goto (tgt := 46) hx hb dX9_bothOf_42 (by decide) ?_
            have g := B46 V21 v1 (1 : Int32) h
            rw [hG] at g
            exact g H locs ls w (lv_sub hl [1, 2] rfl)
      have B28 : ∀ (V : Vt) (v1 : Int32) (v2 : Int32), f_X9_bothOf_28 N KR (f_X9_bothOf_6 N KR n6) V v1 v2 = some (r, V') → G 28 V [(0, .ref (ad 0)), (1, .int v1), (2, .int v2)] [.ref (ad 0)] := by
        intro V v1 v2 h
        rw [hG]
        intro H locs ls w hl
        rw [f_X9_bothOf_28] at h
        refine lv_iconst (v := 0) hx hb dX9_bothOf_28 (by decide) ?_
        have g := B29 V v1 v2 (0 : Int32) h
        rw [hG] at g
        exact g H locs ls w (lv_sub hl [0, 1, 2] rfl)
      intro V v1 v2 h
      rw [hG]
      intro H locs ls w hl
      rw [f_X9_bothOf_6] at h
      refine lv_aload_n hx hb dX9_bothOf_6 rfl (lv_at hl 0 rfl) ?_
      refine lv_bipush (v := 7) hx hb dX9_bothOf_7 (by decide) ?_
      obtain ⟨r13, V15, q14, h⟩ := obi h
      refine m_ci (m_rV (As := [.int (7 : Int32)]) (rest := []) X w hl mi_X9_passes0 ml_X9_282 0 sm_n0 sm_k0 rfl (c_X9_passes0 l D cy ad A Kc C0 N z V (7 : Int32) r13 V15 q14) ⟨⟨rfl, rfl, (by show 1 + 1 ≤ F; omega), (by show 8 + (3 + 11) + 21 ≤ L; omega)⟩, Nat.le_of_ble_eq_true rfl, Nat.le_of_ble_eq_true rfl⟩ rfl rfl (Nat.le_of_ble_eq_true rfl) dX9_bothOf_9) w (fun H locs w => ?_)
      refine lv_if_eq (tgt := 50) hx hb dX9_bothOf_12 (by decide) (fun c16 => ?_) (fun c16 => ?_)
      · replace h := ifT h c16
        refine lv_iload_n hx hb dX9_bothOf_50 rfl (lv_at hl 2 rfl) ?_
        obtain ⟨g17, h⟩ := cbi h
        obtain ⟨rfl, rfl⟩ := reti h
        exact m_rz X w hr (nb01 g17) hlocks dX9_bothOf_51
      · replace h := ifF h c16
        refine lv_aload_n hx hb dX9_bothOf_15 rfl (lv_at hl 0 rfl) ?_
        refine lv_iload_n hx hb dX9_bothOf_16 rfl (lv_at hl 1 rfl) ?_
        refine lv_if_eq (tgt := 28) hx hb dX9_bothOf_17 (by decide) (fun c18 => ?_) (fun c18 => ?_)
        · replace h := ifT h c18
          have g := B28 V15 v1 v2 h
          rw [hG] at g
          exact g H locs ls w (lv_sub hl [0, 1, 2] rfl)
        · replace h := ifF h c18
          refine lv_iload_n hx hb dX9_bothOf_20 rfl (lv_at hl 2 rfl) ?_
          refine lv_if_eq (tgt := 28) hx hb dX9_bothOf_21 (by decide) (fun c24 => ?_) (fun c24 => ?_)
          · replace h := ifT h c24
            have g := B28 V15 v1 v2 h
            rw [hG] at g
            exact g H locs ls w (lv_sub hl [0, 1, 2] rfl)
          · replace h := ifF h c24
            refine lv_iconst (v := 1) hx hb dX9_bothOf_24 (by decide) ?_
            refine lv_goto (tgt := 29) hx hb dX9_bothOf_25 (by decide) ?_
            have g := B29 V15 v1 v2 (1 : Int32) h
            rw [hG] at g
            exact g H locs ls w (lv_sub hl [0, 1, 2] rfl)
  rw [f_X9_bothOf] at h
  refine lv_aload_n hx hb dX9_bothOf_0 rfl (lv_at hl 0 rfl) ?_
  refine lv_iload_n hx hb dX9_bothOf_1 rfl (lv_at hl 1 rfl) ?_
  obtain ⟨r10, V12, q11, h⟩ := obi h
  refine m_ci (m_rV (As := [.int a1]) (rest := []) X w hl mi_X9_plainOf ml_X9_303 0 sm_n0 sm_k0 rfl (hKR.2.2.1 V a1 r10 V12 q11) ⟨⟨rfl, rfl, hF, (by show 8 + (3 + 11) + Lk ≤ L; omega)⟩, Nat.le_of_ble_eq_true rfl, Nat.le_of_ble_eq_true rfl⟩ rfl rfl (Nat.le_of_ble_eq_true rfl) dX9_bothOf_2) w (fun H locs w => ?_)
  refine lv_istore_n (lv' := [(2, .int r10), (0, .ref (ad 0)), (1, .int a1)]) hx hb dX9_bothOf_5 rfl hl (by decide) rfl (fun ls hl => ?_)
  have g := L6 N V12 a1 r10 h
  rw [hG] at g
  exact g H locs ls w (lv_sub hl [1, 2, 0] rfl)
def f_X9_plainOf_20 (N : Nat) (KR : Nat → Vt → Int32 → Option (Int32 × Vt)) (K2 : Vt → Int32 → Int32 → Option (Int32 × Vt)) (V : Vt) (v1 : Int32) (s0 : Int32) : Option (Int32 × Vt) := K2 V v1 s0
def f_X9_plainOf_2 (N : Nat) (KR : Nat → Vt → Int32 → Option (Int32 × Vt)) : Nat → Vt → Int32 → Int32 → Option (Int32 × Vt)
  | 0, _, _, _ => none
  | n + 1, V, v1, v2 => ob (f_X9_passes0 N V (8 : Int32)) (fun r7 V9 => if r7 = 0 then ob (KR 3 V9 v1) (fun r11 V13 => if r11 = v2 then some ((0 : Int32), V13) else some ((1 : Int32), V13)) else if v2 = 0 then f_X9_plainOf_20 N KR (f_X9_plainOf_2 N KR n) V9 v1 (1 : Int32) else f_X9_plainOf_20 N KR (f_X9_plainOf_2 N KR n) V9 v1 (0 : Int32))
def f_X9_plainOf (N : Nat) (KR : Nat → Vt → Int32 → Option (Int32 × Vt)) (V : Vt) (a1 : Int32) : Option (Int32 × Vt) := f_X9_plainOf_2 N KR N V a1 (0 : Int32)
set_option maxHeartbeats 4000000 in
set_option maxRecDepth 100000 in
theorem c_X9_plainOf (l : Launch) (D : va_G) (cy : Nat → ClassId) (ad : Nat → Nat) (A : Nat → Prop) (Kc : State → Prop) (C0 : Cx ad A Kc) (N : Nat) (KR : Nat → Vt → Int32 → Option (Int32 × Vt)) (z Fk Lk F L : Nat) (hF : Fk + 1 ≤ F) (hL : Lk + 60 ≤ L) (hF0 : 44 ≤ F) (hL0 : 2491 ≤ L) (hKR : RH_X9_testOf l D cy ad A Kc z KR Fk Lk) (V : Vt) (a1 : Int32) (r : Int32) (V' : Vt) (h : f_X9_plainOf N KR V a1 = some (r, V')) : Met l yX9_plainOf (mw yX9_plainOf cX9_plainOf 3 (some .boolean)) { frames := F, cells := 0, slots := 0, locals := L } (PreM D cy ad Kc (SM z) V [.ref (ad 0), .int a1]) (QI D cy ad A r (SM z) V') 0 0 A := by
  refine ct_go C0 (own := RX9) rfl (by decide) rfl ?_
  intro p e s m below meth c ls H locs X hr hlocks hnm hl w
  have hx := X.1.1
  have hb := X.1.2.1
  have hown := X.2.1
  have hts := X.2.2.1
  have hl : lv_has ls 3 [(0, .ref (ad 0)), (1, .int a1)] := hl
  obtain ⟨G, hG⟩ : ∃ G : Nat → Vt → List (Nat × Value) → List Value → Prop, G = fun pc V lv st => ∀ (H : Heap) (locs : List Loc) (ls : Array Slot), Wd D cy ad A s.heap (SM z) V H locs → lv_has ls 3 lv → W p l e { frames := F, cells := 0, slots := 0, locals := L } s m ([.ref (ad 0), .int a1] : List Value).toArray below meth c H locs 0 0 (MQ below (QI D cy ad A r (SM z) V') ([.ref (ad 0), .int a1] : List Value).toArray s 0 0 A) (F0 m pc ls st) := ⟨_, rfl⟩
  have L2 : ∀ (n2 : Nat) (V : Vt) (v1 : Int32) (v2 : Int32), f_X9_plainOf_2 N KR n2 V v1 v2 = some (r, V') → G 2 V [(0, .ref (ad 0)), (1, .int v1), (2, .int v2)] [] := by
    intro n2
    induction n2 with
    | zero => intro V v1 v2 h; rw [f_X9_plainOf_2] at h; cases h
    | succ n2 ih2 =>
      have B20 : ∀ (V : Vt) (v1 : Int32) (s0 : Int32), f_X9_plainOf_20 N KR (f_X9_plainOf_2 N KR n2) V v1 s0 = some (r, V') → G 20 V [(0, .ref (ad 0)), (1, .int v1)] [.int s0] := by
        intro V v1 s0 h
        rw [hG]
        intro H locs ls w hl
        rw [f_X9_plainOf_20] at h
        refine lv_istore_n (lv' := [(2, .int s0), (0, .ref (ad 0)), (1, .int v1)]) hx hb dX9_plainOf_20 rfl hl (by decide) rfl (fun ls hl => ?_)
        refine lv_goto (tgt := 2) hx hb dX9_plainOf_21 (by decide) ?_
        have g := ih2 V v1 s0 h
        rw [hG] at g
        exact g H locs ls w (lv_sub hl [1, 2, 0] rfl)
      intro V v1 v2 h
      rw [hG]
      intro H locs ls w hl
      rw [f_X9_plainOf_2] at h
      refine lv_aload_n hx hb dX9_plainOf_2 rfl (lv_at hl 0 rfl) ?_
      refine lv_bipush (v := 8) hx hb dX9_plainOf_3 (by decide) ?_
      obtain ⟨r7, V9, q8, h⟩ := obi h
      refine m_ci (m_rV (As := [.int (8 : Int32)]) (rest := []) X w hl mi_X9_passes0 ml_X9_282 0 sm_n0 sm_k0 rfl (c_X9_passes0 l D cy ad A Kc C0 N z V (8 : Int32) r7 V9 q8) ⟨⟨rfl, rfl, (by show 1 + 1 ≤ F; omega), (by show 8 + (3 + 11) + 21 ≤ L; omega)⟩, Nat.le_of_ble_eq_true rfl, Nat.le_of_ble_eq_true rfl⟩ rfl rfl (Nat.le_of_ble_eq_true rfl) dX9_plainOf_5) w (fun H locs w => ?_)
      refine lv_if_eq (tgt := 24) hx hb dX9_plainOf_8 (by decide) (fun c10 => ?_) (fun c10 => ?_)
      · replace h := ifT h c10
        refine lv_aload_n hx hb dX9_plainOf_24 rfl (lv_at hl 0 rfl) ?_
        refine lv_iload_n hx hb dX9_plainOf_25 rfl (lv_at hl 1 rfl) ?_
        obtain ⟨r11, V13, q12, h⟩ := obi h
        refine m_ci (m_rV (As := [.int v1]) (rest := []) X w hl mi_X9_positiveOf ml_X9_306 0 sm_n0 sm_k0 rfl (hKR.2.2.2 V9 v1 r11 V13 q12) ⟨⟨rfl, rfl, hF, (by show 8 + (7 + 11) + Lk ≤ L; omega)⟩, Nat.le_of_ble_eq_true rfl, Nat.le_of_ble_eq_true rfl⟩ rfl rfl (Nat.le_of_ble_eq_true rfl) dX9_plainOf_26) w (fun H locs w => ?_)
        refine lv_iload_n hx hb dX9_plainOf_29 rfl (lv_at hl 2 rfl) ?_
        refine lv_icmp_eq (tgt := 37) hx hb dX9_plainOf_30 (by decide) (fun c14 => ?_) (fun c14 => ?_)
        · replace h := ifT h c14
          refine lv_iconst (v := 0) hx hb dX9_plainOf_37 (by decide) ?_
          obtain ⟨rfl, rfl⟩ := reti h
          exact m_rz X w hr rfl hlocks dX9_plainOf_38
        · replace h := ifF h c14
          refine lv_iconst (v := 1) hx hb dX9_plainOf_33 (by decide) ?_
          refine lv_goto (tgt := 38) hx hb dX9_plainOf_34 (by decide) ?_
          obtain ⟨rfl, rfl⟩ := reti h
          exact m_rz X w hr rfl hlocks dX9_plainOf_38
      · replace h := ifF h c10
        refine lv_iload_n hx hb dX9_plainOf_11 rfl (lv_at hl 2 rfl) ?_
        refine lv_if_ne (tgt := 19) hx hb dX9_plainOf_12 (by decide) (fun c15 => ?_) (fun c15 => ?_)
        · replace h := ifF h c15
          refine lv_iconst (v := 0) hx hb dX9_plainOf_19 (by decide) ?_
          have g := B20 V9 v1 (0 : Int32) h
          rw [hG] at g
          exact g H locs ls w (lv_sub hl [0, 1] rfl)
        · replace h := ifT h c15
          refine lv_iconst (v := 1) hx hb dX9_plainOf_15 (by decide) ?_
          refine lv_goto (tgt := 20) hx hb dX9_plainOf_16 (by decide) ?_
          have g := B20 V9 v1 (1 : Int32) h
          rw [hG] at g
          exact g H locs ls w (lv_sub hl [0, 1] rfl)
  rw [f_X9_plainOf] at h
  refine lv_iconst (v := 0) hx hb dX9_plainOf_0 (by decide) ?_
  refine lv_istore_n (lv' := [(2, .int (0 : Int32)), (0, .ref (ad 0)), (1, .int a1)]) hx hb dX9_plainOf_1 rfl hl (by decide) rfl (fun ls hl => ?_)
  have g := L2 N V a1 (0 : Int32) h
  rw [hG] at g
  exact g H locs ls w (lv_sub hl [1, 2, 0] rfl)
def f_X9_positiveOf (N : Nat) (KR : Nat → Vt → Int32 → Option (Int32 × Vt)) (V : Vt) (a1 : Int32) : Option (Int32 × Vt) := ob1 (f_X9_sign N (40 : Int32)) (fun r23 => ob (f_X9_passes0 N V r23) (fun r25 V27 => if r25 = 0 then ob (g_X9_sumOf N 40 0 V27 a1) (fun r29 V31 => ob1 (f_X9_codeAt N V31 (V31.1 0 22)) (fun r32 => bd (sF V31 0 22 ((V31.1 0 22) + (1 : Int32))) (fun V34 => ob (g_X9_sumOf N 40 0 V34 a1) (fun r35 V37 => if a1 = 0 then some ((0 : Int32), V37) else if (V37.1 0 24) = 0 then ob1 (f_X9_sign N (60 : Int32)) (fun r40 => if r32 = r40 then if 0 ≤ (lg_cmp r29 r35) then some ((0 : Int32), V37) else some ((1 : Int32), V37) else ob1 (f_X9_sign N (62 : Int32)) (fun r43 => if r32 = r43 then if (lg_cmp r29 r35) ≤ 0 then some ((0 : Int32), V37) else some ((1 : Int32), V37) else if (lg_cmp r29 r35) = 0 then some ((1 : Int32), V37) else some ((0 : Int32), V37))) else some ((0 : Int32), V37))))) else ob (KR 0 V27 a1) (fun r49 V51 => bd (sF V51 0 22 ((V51.1 0 22) + (1 : Int32))) (fun V52 => cb r49 (some (r49, V52))))))
set_option maxHeartbeats 4000000 in
set_option maxRecDepth 100000 in
theorem c_X9_positiveOf (l : Launch) (D : va_G) (cy : Nat → ClassId) (ad : Nat → Nat) (A : Nat → Prop) (Kc : State → Prop) (C0 : Cx ad A Kc) (N : Nat) (KR : Nat → Vt → Int32 → Option (Int32 × Vt)) (z Fk Lk F L : Nat) (hF : Fk + 1 ≤ F) (hL : Lk + 60 ≤ L) (hF0 : 44 ≤ F) (hL0 : 2491 ≤ L) (hKR : RH_X9_testOf l D cy ad A Kc z KR Fk Lk) (V : Vt) (a1 : Int32) (r : Int32) (V' : Vt) (h : f_X9_positiveOf N KR V a1 = some (r, V')) : Met l yX9_positiveOf (mw yX9_positiveOf cX9_positiveOf 7 (some .boolean)) { frames := F, cells := 0, slots := 0, locals := L } (PreM D cy ad Kc (SM z) V [.ref (ad 0), .int a1]) (QI D cy ad A r (SM z) V') 0 0 A := by
  refine ct_go C0 (own := RX9) rfl (by decide) rfl ?_
  intro p e s m below meth c ls H locs X hr hlocks hnm hl w
  have hx := X.1.1
  have hb := X.1.2.1
  have hown := X.2.1
  have hts := X.2.2.1
  have hl : lv_has ls 7 [(0, .ref (ad 0)), (1, .int a1)] := hl
  rw [f_X9_positiveOf] at h
  refine lv_aload_n hx hb dX9_positiveOf_0 rfl (lv_at hl 0 rfl) ?_
  refine lv_bipush (v := 40) hx hb dX9_positiveOf_1 (by decide) ?_
  obtain ⟨r23, q24, h⟩ := ob1i h
  refine m_ci (m_rS (As := [.int (40 : Int32)]) (rest := [.ref (ad 0)]) X w hl mi_X9_sign ml_X9_220 (c_X9_sign l D cy ad A Kc C0 N z V (40 : Int32) r23 q24) ⟨⟨rfl, rfl, (by show 0 + 1 ≤ F; omega), (by show 8 + (1 + 11) + 0 ≤ L; omega)⟩, Nat.le_of_ble_eq_true rfl, Nat.le_of_ble_eq_true rfl⟩ rfl rfl (Nat.le_of_ble_eq_true rfl) dX9_positiveOf_3) w (fun H locs w => ?_)
  obtain ⟨r25, V27, q26, h⟩ := obi h
  refine m_ci (m_rV (As := [.int r23]) (rest := []) X w hl mi_X9_passes0 ml_X9_282 0 sm_n0 sm_k0 rfl (c_X9_passes0 l D cy ad A Kc C0 N z V r23 r25 V27 q26) ⟨⟨rfl, rfl, (by show 1 + 1 ≤ F; omega), (by show 8 + (3 + 11) + 21 ≤ L; omega)⟩, Nat.le_of_ble_eq_true rfl, Nat.le_of_ble_eq_true rfl⟩ rfl rfl (Nat.le_of_ble_eq_true rfl) dX9_positiveOf_6) w (fun H locs w => ?_)
  refine lv_if_eq (tgt := 30) hx hb dX9_positiveOf_9 (by decide) (fun c28 => ?_) (fun c28 => ?_)
  · replace h := ifT h c28
    refine lv_aload_n hx hb dX9_positiveOf_30 rfl (lv_at hl 0 rfl) ?_
    refine lv_iload_n hx hb dX9_positiveOf_31 rfl (lv_at hl 1 rfl) ?_
    obtain ⟨r29, V31, q30, h⟩ := obi h
    refine m_cl (m_rV (As := [.int a1]) (rest := []) X w hl mi_X9_sumOf ml_X9_285 0 sm_n0 sm_k0 rfl ((cg_X9_sumOf l D cy ad A Kc C0 N z 40).1 V27 a1 r29 V31 q30) ⟨⟨rfl, rfl, (by show 43 + 1 ≤ F; omega), (by show 8 + (7 + 11) + 2465 ≤ L; omega)⟩, Nat.le_of_ble_eq_true rfl, Nat.le_of_ble_eq_true rfl⟩ rfl rfl (Nat.le_of_ble_eq_true rfl) dX9_positiveOf_32) w (fun H locs w => ?_)
    refine lv_lstore_n (lv' := [(2, .long r29), (0, .ref (ad 0)), (1, .int a1)]) hx hb dX9_positiveOf_35 rfl hl (by decide) rfl (fun ls hl => ?_)
    refine lv_aload_n hx hb dX9_positiveOf_36 rfl (lv_at hl 1 rfl) ?_
    refine lv_aload_n hx hb dX9_positiveOf_37 rfl (lv_at hl 1 rfl) ?_
    refine m_get X w 0 sm_n0 sm_k0 ci9 22 (by decide) (fvI sm_k0 rfl) rfl fl_X9_258 dX9_positiveOf_38 ?_
    obtain ⟨r32, q33, h⟩ := ob1i h
    refine m_ci (m_rV (As := [.int (V31.1 0 22)]) (rest := []) X w hl mi_X9_codeAt ml_X9_261 0 sm_n0 sm_k0 rfl (c_X9_codeAt l D cy ad A Kc C0 N z V31 (V31.1 0 22) r32 q33) ⟨⟨rfl, rfl, (by show 0 + 1 ≤ F; omega), (by show 8 + (2 + 11) + 0 ≤ L; omega)⟩, Nat.le_of_ble_eq_true rfl, Nat.le_of_ble_eq_true rfl⟩ rfl rfl (Nat.le_of_ble_eq_true rfl) dX9_positiveOf_41) w (fun H locs w => ?_)
    refine lv_istore (lv' := [(4, .int r32), (2, .long r29), (0, .ref (ad 0)), (1, .int a1)]) hx hb dX9_positiveOf_44 hl (by decide) rfl (fun ls hl => ?_)
    refine lv_aload_n hx hb dX9_positiveOf_46 rfl (lv_at hl 2 rfl) ?_
    refine lv_dup hx hb dX9_positiveOf_47 rfl ?_
    refine m_get X w 0 sm_n0 sm_k0 ci9 22 (by decide) (fvI sm_k0 rfl) rfl fl_X9_258 dX9_positiveOf_48 ?_
    refine lv_iconst (v := 1) hx hb dX9_positiveOf_51 (by decide) ?_
    refine lv_iadd hx hb dX9_positiveOf_52 ?_
    refine m_put X w 0 sm_n0 sm_k0 ci9 22 (by decide) rfl rfl rfl rfl rfl fl_X9_258 dX9_positiveOf_53 (fun V34 H locs eV34 w => ?_)
    replace h := bdi h _ eV34
    refine lv_aload_n hx hb dX9_positiveOf_56 rfl (lv_at hl 2 rfl) ?_
    refine lv_iload_n hx hb dX9_positiveOf_57 rfl (lv_at hl 3 rfl) ?_
    obtain ⟨r35, V37, q36, h⟩ := obi h
    refine m_cl (m_rV (As := [.int a1]) (rest := []) X w hl mi_X9_sumOf ml_X9_285 0 sm_n0 sm_k0 rfl ((cg_X9_sumOf l D cy ad A Kc C0 N z 40).1 V34 a1 r35 V37 q36) ⟨⟨rfl, rfl, (by show 43 + 1 ≤ F; omega), (by show 8 + (7 + 11) + 2465 ≤ L; omega)⟩, Nat.le_of_ble_eq_true rfl, Nat.le_of_ble_eq_true rfl⟩ rfl rfl (Nat.le_of_ble_eq_true rfl) dX9_positiveOf_58) w (fun H locs w => ?_)
    refine lv_lstore (lv' := [(5, .long r35), (4, .int r32), (2, .long r29), (0, .ref (ad 0)), (1, .int a1)]) hx hb dX9_positiveOf_61 hl (by decide) rfl (fun ls hl => ?_)
    refine lv_iload_n hx hb dX9_positiveOf_63 rfl (lv_at hl 4 rfl) ?_
    refine lv_if_eq (tgt := 125) hx hb dX9_positiveOf_64 (by decide) (fun c38 => ?_) (fun c38 => ?_)
    · replace h := ifT h c38
      refine lv_iconst (v := 0) hx hb dX9_positiveOf_125 (by decide) ?_
      obtain ⟨rfl, rfl⟩ := reti h
      exact m_rz X w hr rfl hlocks dX9_positiveOf_126
    · replace h := ifF h c38
      refine lv_aload_n hx hb dX9_positiveOf_67 rfl (lv_at hl 3 rfl) ?_
      refine m_get X w 0 sm_n0 sm_k0 ci9 24 (by decide) (fvI sm_k0 rfl) rfl fl_X9_268 dX9_positiveOf_68 ?_
      refine lv_if_ne (tgt := 125) hx hb dX9_positiveOf_71 (by decide) (fun c39 => ?_) (fun c39 => ?_)
      · replace h := ifF h c39
        refine lv_iconst (v := 0) hx hb dX9_positiveOf_125 (by decide) ?_
        obtain ⟨rfl, rfl⟩ := reti h
        exact m_rz X w hr rfl hlocks dX9_positiveOf_126
      · replace h := ifT h c39
        refine lv_iload hx hb dX9_positiveOf_74 (lv_at hl 1 rfl) ?_
        refine lv_bipush (v := 60) hx hb dX9_positiveOf_76 (by decide) ?_
        obtain ⟨r40, q41, h⟩ := ob1i h
        refine m_ci (m_rS (As := [.int (60 : Int32)]) (rest := [.int r32]) X w hl mi_X9_sign ml_X9_220 (c_X9_sign l D cy ad A Kc C0 N z V37 (60 : Int32) r40 q41) ⟨⟨rfl, rfl, (by show 0 + 1 ≤ F; omega), (by show 8 + (1 + 11) + 0 ≤ L; omega)⟩, Nat.le_of_ble_eq_true rfl, Nat.le_of_ble_eq_true rfl⟩ rfl rfl (Nat.le_of_ble_eq_true rfl) dX9_positiveOf_78) w (fun H locs w => ?_)
        refine lv_icmp_ne (tgt := 94) hx hb dX9_positiveOf_81 (by decide) (fun c42 => ?_) (fun c42 => ?_)
        · replace h := ifF h c42
          refine lv_iload hx hb dX9_positiveOf_94 (lv_at hl 1 rfl) ?_
          refine lv_bipush (v := 62) hx hb dX9_positiveOf_96 (by decide) ?_
          obtain ⟨r43, q44, h⟩ := ob1i h
          refine m_ci (m_rS (As := [.int (62 : Int32)]) (rest := [.int r32]) X w hl mi_X9_sign ml_X9_220 (c_X9_sign l D cy ad A Kc C0 N z V37 (62 : Int32) r43 q44) ⟨⟨rfl, rfl, (by show 0 + 1 ≤ F; omega), (by show 8 + (1 + 11) + 0 ≤ L; omega)⟩, Nat.le_of_ble_eq_true rfl, Nat.le_of_ble_eq_true rfl⟩ rfl rfl (Nat.le_of_ble_eq_true rfl) dX9_positiveOf_98) w (fun H locs w => ?_)
          refine lv_icmp_ne (tgt := 114) hx hb dX9_positiveOf_101 (by decide) (fun c45 => ?_) (fun c45 => ?_)
          · replace h := ifF h c45
            refine lv_lload_n hx hb dX9_positiveOf_114 rfl (lv_at hl 2 rfl) ?_
            refine lv_lload hx hb dX9_positiveOf_115 (lv_at hl 0 rfl) ?_
            refine W.lcmp hx hb dX9_positiveOf_117 ?_
            refine lv_if_ne (tgt := 125) hx hb dX9_positiveOf_118 (by decide) (fun c46 => ?_) (fun c46 => ?_)
            · replace h := ifF h c46
              refine lv_iconst (v := 0) hx hb dX9_positiveOf_125 (by decide) ?_
              obtain ⟨rfl, rfl⟩ := reti h
              exact m_rz X w hr rfl hlocks dX9_positiveOf_126
            · replace h := ifT h c46
              refine lv_iconst (v := 1) hx hb dX9_positiveOf_121 (by decide) ?_
              refine lv_goto (tgt := 126) hx hb dX9_positiveOf_122 (by decide) ?_
              obtain ⟨rfl, rfl⟩ := reti h
              exact m_rz X w hr rfl hlocks dX9_positiveOf_126
          · replace h := ifT h c45
            refine lv_lload_n hx hb dX9_positiveOf_104 rfl (lv_at hl 2 rfl) ?_
            refine lv_lload hx hb dX9_positiveOf_105 (lv_at hl 0 rfl) ?_
            refine W.lcmp hx hb dX9_positiveOf_107 ?_
            refine lv_if_le (tgt := 125) hx hb dX9_positiveOf_108 (by decide) (fun c47 => ?_) (fun c47 => ?_)
            · replace h := ifT h c47
              refine lv_iconst (v := 0) hx hb dX9_positiveOf_125 (by decide) ?_
              obtain ⟨rfl, rfl⟩ := reti h
              exact m_rz X w hr rfl hlocks dX9_positiveOf_126
            · replace h := ifF h c47
              refine lv_goto (tgt := 121) hx hb dX9_positiveOf_111 (by decide) ?_
              refine lv_iconst (v := 1) hx hb dX9_positiveOf_121 (by decide) ?_
              refine lv_goto (tgt := 126) hx hb dX9_positiveOf_122 (by decide) ?_
              obtain ⟨rfl, rfl⟩ := reti h
              exact m_rz X w hr rfl hlocks dX9_positiveOf_126
        · replace h := ifT h c42
          refine lv_lload_n hx hb dX9_positiveOf_84 rfl (lv_at hl 2 rfl) ?_
          refine lv_lload hx hb dX9_positiveOf_85 (lv_at hl 0 rfl) ?_
          refine W.lcmp hx hb dX9_positiveOf_87 ?_
          refine lv_if_ge (tgt := 125) hx hb dX9_positiveOf_88 (by decide) (fun c48 => ?_) (fun c48 => ?_)
          · replace h := ifT h c48
            refine lv_iconst (v := 0) hx hb dX9_positiveOf_125 (by decide) ?_
            obtain ⟨rfl, rfl⟩ := reti h
            exact m_rz X w hr rfl hlocks dX9_positiveOf_126
          · replace h := ifF h c48
            refine lv_goto (tgt := 121) hx hb dX9_positiveOf_91 (by decide) ?_
            refine lv_iconst (v := 1) hx hb dX9_positiveOf_121 (by decide) ?_
            refine lv_goto (tgt := 126) hx hb dX9_positiveOf_122 (by decide) ?_
            obtain ⟨rfl, rfl⟩ := reti h
            exact m_rz X w hr rfl hlocks dX9_positiveOf_126
  · replace h := ifF h c28
    refine lv_aload_n hx hb dX9_positiveOf_12 rfl (lv_at hl 0 rfl) ?_
    refine lv_iload_n hx hb dX9_positiveOf_13 rfl (lv_at hl 1 rfl) ?_
    obtain ⟨r49, V51, q50, h⟩ := obi h
    refine m_ci (m_rV (As := [.int a1]) (rest := []) X w hl mi_X9_testOf ml_X9_309 0 sm_n0 sm_k0 rfl (hKR.1 V27 a1 r49 V51 q50) ⟨⟨rfl, rfl, hF, (by show 8 + (4 + 11) + Lk ≤ L; omega)⟩, Nat.le_of_ble_eq_true rfl, Nat.le_of_ble_eq_true rfl⟩ rfl rfl (Nat.le_of_ble_eq_true rfl) dX9_positiveOf_14) w (fun H locs w => ?_)
    refine lv_istore_n (lv' := [(2, .int r49), (0, .ref (ad 0)), (1, .int a1)]) hx hb dX9_positiveOf_17 rfl hl (by decide) rfl (fun ls hl => ?_)
    refine lv_aload_n hx hb dX9_positiveOf_18 rfl (lv_at hl 1 rfl) ?_
    refine lv_dup hx hb dX9_positiveOf_19 rfl ?_
    refine m_get X w 0 sm_n0 sm_k0 ci9 22 (by decide) (fvI sm_k0 rfl) rfl fl_X9_258 dX9_positiveOf_20 ?_
    refine lv_iconst (v := 1) hx hb dX9_positiveOf_23 (by decide) ?_
    refine lv_iadd hx hb dX9_positiveOf_24 ?_
    refine m_put X w 0 sm_n0 sm_k0 ci9 22 (by decide) rfl rfl rfl rfl rfl fl_X9_258 dX9_positiveOf_25 (fun V52 H locs eV52 w => ?_)
    replace h := bdi h _ eV52
    refine lv_iload_n hx hb dX9_positiveOf_28 rfl (lv_at hl 0 rfl) ?_
    obtain ⟨g53, h⟩ := cbi h
    obtain ⟨rfl, rfl⟩ := reti h
    exact m_rz X w hr (nb01 g53) hlocks dX9_positiveOf_29
def g_X9_testOf (N : Nat) : Nat → Nat → Vt → Int32 → Option (Int32 × Vt)
  | 0, _, _, _ => none
  | d + 1, t, V, a => if t = 0 then f_X9_testOf N (g_X9_testOf N d) V a else if t = 1 then f_X9_bothOf N (g_X9_testOf N d) V a else if t = 2 then f_X9_plainOf N (g_X9_testOf N d) V a else f_X9_positiveOf N (g_X9_testOf N d) V a
theorem cg_X9_testOf (l : Launch) (D : va_G) (cy : Nat → ClassId) (ad : Nat → Nat) (A : Nat → Prop) (Kc : State → Prop) (C0 : Cx ad A Kc) (N z : Nat) : ∀ d : Nat, RH_X9_testOf l D cy ad A Kc z (g_X9_testOf N d) (44 + d) (2491 + 60 * d) := by
  intro d
  induction d with
  | zero => exact ⟨(fun V a1 r V' h => by rw [g_X9_testOf] at h; cases h), (fun V a1 r V' h => by rw [g_X9_testOf] at h; cases h), (fun V a1 r V' h => by rw [g_X9_testOf] at h; cases h), (fun V a1 r V' h => by rw [g_X9_testOf] at h; cases h)⟩
  | succ d ih =>
    exact ⟨(fun V a1 r V' h => c_X9_testOf l D cy ad A Kc C0 N (g_X9_testOf N d) z (44 + d) (2491 + 60 * d) (44 + (d + 1)) (2491 + 60 * (d + 1)) (by omega) (by omega) (by omega) (by omega) ih V a1 r V' (by rw [g_X9_testOf] at h; exact (ifT h rfl))), (fun V a1 r V' h => c_X9_bothOf l D cy ad A Kc C0 N (g_X9_testOf N d) z (44 + d) (2491 + 60 * d) (44 + (d + 1)) (2491 + 60 * (d + 1)) (by omega) (by omega) (by omega) (by omega) ih V a1 r V' (by rw [g_X9_testOf] at h; exact (ifT (ifF h (by decide)) rfl))), (fun V a1 r V' h => c_X9_plainOf l D cy ad A Kc C0 N (g_X9_testOf N d) z (44 + d) (2491 + 60 * d) (44 + (d + 1)) (2491 + 60 * (d + 1)) (by omega) (by omega) (by omega) (by omega) ih V a1 r V' (by rw [g_X9_testOf] at h; exact (ifT (ifF (ifF h (by decide)) (by decide)) rfl))), (fun V a1 r V' h => c_X9_positiveOf l D cy ad A Kc C0 N (g_X9_testOf N d) z (44 + d) (2491 + 60 * d) (44 + (d + 1)) (2491 + 60 * (d + 1)) (by omega) (by omega) (by omega) (by omega) ih V a1 r V' (by rw [g_X9_testOf] at h; exact (ifF (ifF (ifF h (by decide)) (by decide)) (by decide))))⟩
def f_X9_readClause_37 (N : Nat) (V : Vt) : Option Vt := ob (f_X9_takes0 N V (5 : Int32)) (fun r29 V31 => if r29 = 0 then some V31 else obv (g_X9_readTest N 40 0 V31 (0 : Int32)) (fun V35 => some V35))
def f_X9_readClause_16 (N : Nat) (V : Vt) : Option Vt := obv (g_X9_readSum N 40 0 V (0 : Int32)) (fun V28 => f_X9_readClause_37 N V28 )
def f_X9_readClause (N : Nat) (V : Vt) : Option Vt := ob (f_X9_takes0 N V (1 : Int32)) (fun r22 V24 => if r22 = 0 then ob (f_X9_takes0 N V24 (2 : Int32)) (fun r36 V38 => if r36 = 0 then ob (f_X9_takes0 N V38 (3 : Int32)) (fun r40 V42 => if r40 = 0 then obv (f_X9_must N V42 (4 : Int32)) (fun V46 => f_X9_readClause_37 N V46 ) else f_X9_readClause_37 N V42 ) else f_X9_readClause_16 N V38 ) else f_X9_readClause_16 N V24 )
set_option maxHeartbeats 4000000 in
set_option maxRecDepth 100000 in
theorem c_X9_readClause (l : Launch) (D : va_G) (cy : Nat → ClassId) (ad : Nat → Nat) (A : Nat → Prop) (Kc : State → Prop) (C0 : Cx ad A Kc) (N : Nat) (z : Nat) (V : Vt) (V' : Vt) (h : f_X9_readClause N V = some V') : Met l yX9_readClause (mw yX9_readClause cX9_readClause 1 none) { frames := 85, cells := 0, slots := 0, locals := 4905 } (PreM D cy ad Kc (SM z) V [.ref (ad 0)]) (QV D cy ad A (SM z) V') 0 0 A := by
  refine ct_go C0 (own := RX9) rfl (by decide) rfl ?_
  intro p e s m below meth c ls H locs X hr hlocks hnm hl w
  have hx := X.1.1
  have hb := X.1.2.1
  have hown := X.2.1
  have hts := X.2.2.1
  have hl : lv_has ls 1 [(0, .ref (ad 0))] := hl
  obtain ⟨G, hG⟩ : ∃ G : Nat → Vt → List (Nat × Value) → List Value → Prop, G = fun pc V lv st => ∀ (H : Heap) (locs : List Loc) (ls : Array Slot), Wd D cy ad A s.heap (SM z) V H locs → lv_has ls 1 lv → W p l e { frames := 85, cells := 0, slots := 0, locals := 4905 } s m ([.ref (ad 0)] : List Value).toArray below meth c H locs 0 0 (MQ below (QV D cy ad A (SM z) V') ([.ref (ad 0)] : List Value).toArray s 0 0 A) (F0 m pc ls st) := ⟨_, rfl⟩
  have B37 : ∀ (V : Vt), f_X9_readClause_37 N V  = some V' → G 37 V [(0, .ref (ad 0))] [] := by
    intro V  h
    rw [hG]
    intro H locs ls w hl
    rw [f_X9_readClause_37] at h
    refine lv_aload_n hx hb dX9_readClause_37 rfl (lv_at hl 0 rfl) ?_
    refine lv_iconst (v := 5) hx hb dX9_readClause_38 (by decide) ?_
    obtain ⟨r29, V31, q30, h⟩ := obi h
    refine m_ci (m_rV (As := [.int (5 : Int32)]) (rest := []) X w hl mi_X9_takes0 ml_X9_181 0 sm_n0 sm_k0 rfl (c_X9_takes0 l D cy ad A Kc C0 N z V (5 : Int32) r29 V31 q30) ⟨⟨rfl, rfl, Nat.le_of_ble_eq_true rfl, Nat.le_of_ble_eq_true rfl⟩, Nat.le_of_ble_eq_true rfl, Nat.le_of_ble_eq_true rfl⟩ rfl rfl (Nat.le_of_ble_eq_true rfl) dX9_readClause_39) w (fun H locs w => ?_)
    refine lv_if_eq (tgt := 50) hx hb dX9_readClause_42 (by decide) (fun c32 => ?_) (fun c32 => ?_)
    · replace h := ifT h c32
      obtain rfl := Option.some.inj h
      exact m_rv X w hr hlocks dX9_readClause_50
    · replace h := ifF h c32
      refine lv_aload_n hx hb dX9_readClause_45 rfl (lv_at hl 0 rfl) ?_
      refine lv_iconst (v := 0) hx hb dX9_readClause_46 (by decide) ?_
      obtain ⟨V35, q34, h⟩ := obvi h
      refine m_cv (m_rV (As := [.int (0 : Int32)]) (rest := []) X w hl mi_X9_readTest ml_X9_197 0 sm_n0 sm_k0 rfl ((cg_X9_readTest l D cy ad A Kc C0 N z 40).1 V31 (0 : Int32) V35 q34) ⟨⟨rfl, rfl, Nat.le_of_ble_eq_true rfl, Nat.le_of_ble_eq_true rfl⟩, Nat.le_of_ble_eq_true rfl, Nat.le_of_ble_eq_true rfl⟩ rfl rfl (Nat.le_of_ble_eq_true rfl) dX9_readClause_47) w (fun H locs w => ?_)
      obtain rfl := Option.some.inj h
      exact m_rv X w hr hlocks dX9_readClause_50
  have B16 : ∀ (V : Vt), f_X9_readClause_16 N V  = some V' → G 16 V [(0, .ref (ad 0))] [] := by
    intro V  h
    rw [hG]
    intro H locs ls w hl
    rw [f_X9_readClause_16] at h
    refine lv_aload_n hx hb dX9_readClause_16 rfl (lv_at hl 0 rfl) ?_
    refine lv_iconst (v := 0) hx hb dX9_readClause_17 (by decide) ?_
    obtain ⟨V28, q27, h⟩ := obvi h
    refine m_cv (m_rV (As := [.int (0 : Int32)]) (rest := []) X w hl mi_X9_readSum ml_X9_190 0 sm_n0 sm_k0 rfl ((cg_X9_readSum l D cy ad A Kc C0 N z 40).1 V (0 : Int32) V28 q27) ⟨⟨rfl, rfl, Nat.le_of_ble_eq_true rfl, Nat.le_of_ble_eq_true rfl⟩, Nat.le_of_ble_eq_true rfl, Nat.le_of_ble_eq_true rfl⟩ rfl rfl (Nat.le_of_ble_eq_true rfl) dX9_readClause_18) w (fun H locs w => ?_)
    refine lv_goto (tgt := 37) hx hb dX9_readClause_21 (by decide) ?_
    have g := B37 V28  h
    rw [hG] at g
    exact g H locs ls w (lv_sub hl [0] rfl)
  rw [f_X9_readClause] at h
  refine lv_aload_n hx hb dX9_readClause_0 rfl (lv_at hl 0 rfl) ?_
  refine lv_iconst (v := 1) hx hb dX9_readClause_1 (by decide) ?_
  obtain ⟨r22, V24, q23, h⟩ := obi h
  refine m_ci (m_rV (As := [.int (1 : Int32)]) (rest := []) X w hl mi_X9_takes0 ml_X9_181 0 sm_n0 sm_k0 rfl (c_X9_takes0 l D cy ad A Kc C0 N z V (1 : Int32) r22 V24 q23) ⟨⟨rfl, rfl, Nat.le_of_ble_eq_true rfl, Nat.le_of_ble_eq_true rfl⟩, Nat.le_of_ble_eq_true rfl, Nat.le_of_ble_eq_true rfl⟩ rfl rfl (Nat.le_of_ble_eq_true rfl) dX9_readClause_2) w (fun H locs w => ?_)
  refine lv_if_ne (tgt := 16) hx hb dX9_readClause_5 (by decide) (fun c25 => ?_) (fun c25 => ?_)
  · replace h := ifF h c25
    have g := B16 V24  h
    rw [hG] at g
    exact g H locs ls w (lv_sub hl [0] rfl)
  · replace h := ifT h c25
    refine lv_aload_n hx hb dX9_readClause_8 rfl (lv_at hl 0 rfl) ?_
    refine lv_iconst (v := 2) hx hb dX9_readClause_9 (by decide) ?_
    obtain ⟨r36, V38, q37, h⟩ := obi h
    refine m_ci (m_rV (As := [.int (2 : Int32)]) (rest := []) X w hl mi_X9_takes0 ml_X9_181 0 sm_n0 sm_k0 rfl (c_X9_takes0 l D cy ad A Kc C0 N z V24 (2 : Int32) r36 V38 q37) ⟨⟨rfl, rfl, Nat.le_of_ble_eq_true rfl, Nat.le_of_ble_eq_true rfl⟩, Nat.le_of_ble_eq_true rfl, Nat.le_of_ble_eq_true rfl⟩ rfl rfl (Nat.le_of_ble_eq_true rfl) dX9_readClause_10) w (fun H locs w => ?_)
    refine lv_if_eq (tgt := 24) hx hb dX9_readClause_13 (by decide) (fun c39 => ?_) (fun c39 => ?_)
    · replace h := ifT h c39
      refine lv_aload_n hx hb dX9_readClause_24 rfl (lv_at hl 0 rfl) ?_
      refine lv_iconst (v := 3) hx hb dX9_readClause_25 (by decide) ?_
      obtain ⟨r40, V42, q41, h⟩ := obi h
      refine m_ci (m_rV (As := [.int (3 : Int32)]) (rest := []) X w hl mi_X9_takes0 ml_X9_181 0 sm_n0 sm_k0 rfl (c_X9_takes0 l D cy ad A Kc C0 N z V38 (3 : Int32) r40 V42 q41) ⟨⟨rfl, rfl, Nat.le_of_ble_eq_true rfl, Nat.le_of_ble_eq_true rfl⟩, Nat.le_of_ble_eq_true rfl, Nat.le_of_ble_eq_true rfl⟩ rfl rfl (Nat.le_of_ble_eq_true rfl) dX9_readClause_26) w (fun H locs w => ?_)
      refine lv_if_ne (tgt := 37) hx hb dX9_readClause_29 (by decide) (fun c43 => ?_) (fun c43 => ?_)
      · replace h := ifF h c43
        have g := B37 V42  h
        rw [hG] at g
        exact g H locs ls w (lv_sub hl [0] rfl)
      · replace h := ifT h c43
        refine lv_aload_n hx hb dX9_readClause_32 rfl (lv_at hl 0 rfl) ?_
        refine lv_iconst (v := 4) hx hb dX9_readClause_33 (by decide) ?_
        obtain ⟨V46, q45, h⟩ := obvi h
        refine m_cv (m_rV (As := [.int (4 : Int32)]) (rest := []) X w hl mi_X9_must ml_X9_194 0 sm_n0 sm_k0 rfl (c_X9_must l D cy ad A Kc C0 N z V42 (4 : Int32) V46 q45) ⟨⟨rfl, rfl, Nat.le_of_ble_eq_true rfl, Nat.le_of_ble_eq_true rfl⟩, Nat.le_of_ble_eq_true rfl, Nat.le_of_ble_eq_true rfl⟩ rfl rfl (Nat.le_of_ble_eq_true rfl) dX9_readClause_34) w (fun H locs w => ?_)
        have g := B37 V46  h
        rw [hG] at g
        exact g H locs ls w (lv_sub hl [0] rfl)
    · replace h := ifF h c39
      have g := B16 V38  h
      rw [hG] at g
      exact g H locs ls w (lv_sub hl [0] rfl)
def f_X9_readOrder_106 (N : Nat) (V : Vt) : Option Vt := ob (f_X9_takes0 N V (5 : Int32)) (fun r71 V73 => if r71 = 0 then some V73 else obv (g_X9_readTest N 40 0 V73 (0 : Int32)) (fun V77 => some V77))
def f_X9_readOrder_90 (N : Nat) (V : Vt) : Option Vt := ob (f_X9_takes0 N V (29 : Int32)) (fun r67 V69 => if r67 = 0 then f_X9_readOrder_106 N V69  else obv (f_X9_mustNumber N V69 (1 : Int32) (20 : Int32)) (fun V80 => f_X9_readOrder_106 N V80 ))
def f_X9_readOrder (N : Nat) (V : Vt) : Option Vt := ob (f_X9_takes0 N V (22 : Int32)) (fun r52 V54 => if r52 = 0 then ob (f_X9_takes0 N V54 (24 : Int32)) (fun r56 V58 => if r56 = 0 then ob (f_X9_takes0 N V58 (27 : Int32)) (fun r60 V62 => if r60 = 0 then obv (f_X9_must N V62 (28 : Int32)) (fun V66 => f_X9_readOrder_90 N V66 ) else obv (g_X9_readSum N 40 0 V62 (0 : Int32)) (fun V83 => f_X9_readOrder_90 N V83 )) else obv (g_X9_readSum N 40 0 V58 (0 : Int32)) (fun V86 => obv (f_X9_must N V86 (25 : Int32)) (fun V89 => obv (g_X9_readSum N 40 0 V89 (0 : Int32)) (fun V92 => obv (f_X9_must N V92 (26 : Int32)) (fun V95 => obv (g_X9_readSum N 40 0 V95 (0 : Int32)) (fun V98 => f_X9_readOrder_90 N V98 )))))) else obv (g_X9_readSum N 40 0 V54 (0 : Int32)) (fun V101 => obv (f_X9_must N V101 (23 : Int32)) (fun V104 => obv (g_X9_readSum N 40 0 V104 (0 : Int32)) (fun V107 => f_X9_readOrder_90 N V107 ))))
set_option maxHeartbeats 4000000 in
set_option maxRecDepth 100000 in
theorem c_X9_readOrder (l : Launch) (D : va_G) (cy : Nat → ClassId) (ad : Nat → Nat) (A : Nat → Prop) (Kc : State → Prop) (C0 : Cx ad A Kc) (N : Nat) (z : Nat) (V : Vt) (V' : Vt) (h : f_X9_readOrder N V = some V') : Met l yX9_readOrder (mw yX9_readOrder cX9_readOrder 1 none) { frames := 85, cells := 0, slots := 0, locals := 4905 } (PreM D cy ad Kc (SM z) V [.ref (ad 0)]) (QV D cy ad A (SM z) V') 0 0 A := by
  refine ct_go C0 (own := RX9) rfl (by decide) rfl ?_
  intro p e s m below meth c ls H locs X hr hlocks hnm hl w
  have hx := X.1.1
  have hb := X.1.2.1
  have hown := X.2.1
  have hts := X.2.2.1
  have hl : lv_has ls 1 [(0, .ref (ad 0))] := hl
  obtain ⟨G, hG⟩ : ∃ G : Nat → Vt → List (Nat × Value) → List Value → Prop, G = fun pc V lv st => ∀ (H : Heap) (locs : List Loc) (ls : Array Slot), Wd D cy ad A s.heap (SM z) V H locs → lv_has ls 1 lv → W p l e { frames := 85, cells := 0, slots := 0, locals := 4905 } s m ([.ref (ad 0)] : List Value).toArray below meth c H locs 0 0 (MQ below (QV D cy ad A (SM z) V') ([.ref (ad 0)] : List Value).toArray s 0 0 A) (F0 m pc ls st) := ⟨_, rfl⟩
  have B106 : ∀ (V : Vt), f_X9_readOrder_106 N V  = some V' → G 106 V [(0, .ref (ad 0))] [] := by
    intro V  h
    rw [hG]
    intro H locs ls w hl
    rw [f_X9_readOrder_106] at h
    refine lv_aload_n hx hb dX9_readOrder_106 rfl (lv_at hl 0 rfl) ?_
    refine lv_iconst (v := 5) hx hb dX9_readOrder_107 (by decide) ?_
    obtain ⟨r71, V73, q72, h⟩ := obi h
    refine m_ci (m_rV (As := [.int (5 : Int32)]) (rest := []) X w hl mi_X9_takes0 ml_X9_181 0 sm_n0 sm_k0 rfl (c_X9_takes0 l D cy ad A Kc C0 N z V (5 : Int32) r71 V73 q72) ⟨⟨rfl, rfl, Nat.le_of_ble_eq_true rfl, Nat.le_of_ble_eq_true rfl⟩, Nat.le_of_ble_eq_true rfl, Nat.le_of_ble_eq_true rfl⟩ rfl rfl (Nat.le_of_ble_eq_true rfl) dX9_readOrder_108) w (fun H locs w => ?_)
    refine lv_if_eq (tgt := 119) hx hb dX9_readOrder_111 (by decide) (fun c74 => ?_) (fun c74 => ?_)
    · replace h := ifT h c74
      obtain rfl := Option.some.inj h
      exact m_rv X w hr hlocks dX9_readOrder_119
    · replace h := ifF h c74
      refine lv_aload_n hx hb dX9_readOrder_114 rfl (lv_at hl 0 rfl) ?_
      refine lv_iconst (v := 0) hx hb dX9_readOrder_115 (by decide) ?_
      obtain ⟨V77, q76, h⟩ := obvi h
      refine m_cv (m_rV (As := [.int (0 : Int32)]) (rest := []) X w hl mi_X9_readTest ml_X9_197 0 sm_n0 sm_k0 rfl ((cg_X9_readTest l D cy ad A Kc C0 N z 40).1 V73 (0 : Int32) V77 q76) ⟨⟨rfl, rfl, Nat.le_of_ble_eq_true rfl, Nat.le_of_ble_eq_true rfl⟩, Nat.le_of_ble_eq_true rfl, Nat.le_of_ble_eq_true rfl⟩ rfl rfl (Nat.le_of_ble_eq_true rfl) dX9_readOrder_116) w (fun H locs w => ?_)
      obtain rfl := Option.some.inj h
      exact m_rv X w hr hlocks dX9_readOrder_119
  have B90 : ∀ (V : Vt), f_X9_readOrder_90 N V  = some V' → G 90 V [(0, .ref (ad 0))] [] := by
    intro V  h
    rw [hG]
    intro H locs ls w hl
    rw [f_X9_readOrder_90] at h
    refine lv_aload_n hx hb dX9_readOrder_90 rfl (lv_at hl 0 rfl) ?_
    refine lv_bipush (v := 29) hx hb dX9_readOrder_91 (by decide) ?_
    obtain ⟨r67, V69, q68, h⟩ := obi h
    refine m_ci (m_rV (As := [.int (29 : Int32)]) (rest := []) X w hl mi_X9_takes0 ml_X9_181 0 sm_n0 sm_k0 rfl (c_X9_takes0 l D cy ad A Kc C0 N z V (29 : Int32) r67 V69 q68) ⟨⟨rfl, rfl, Nat.le_of_ble_eq_true rfl, Nat.le_of_ble_eq_true rfl⟩, Nat.le_of_ble_eq_true rfl, Nat.le_of_ble_eq_true rfl⟩ rfl rfl (Nat.le_of_ble_eq_true rfl) dX9_readOrder_93) w (fun H locs w => ?_)
    refine lv_if_eq (tgt := 106) hx hb dX9_readOrder_96 (by decide) (fun c70 => ?_) (fun c70 => ?_)
    · replace h := ifT h c70
      have g := B106 V69  h
      rw [hG] at g
      exact g H locs ls w (lv_sub hl [0] rfl)
    · replace h := ifF h c70
      refine lv_aload_n hx hb dX9_readOrder_99 rfl (lv_at hl 0 rfl) ?_
      refine lv_iconst (v := 1) hx hb dX9_readOrder_100 (by decide) ?_
      refine lv_bipush (v := 20) hx hb dX9_readOrder_101 (by decide) ?_
      obtain ⟨V80, q79, h⟩ := obvi h
      refine m_cv (m_rV (As := [.int (1 : Int32), .int (20 : Int32)]) (rest := []) X w hl mi_X9_mustNumber ml_X9_200 0 sm_n0 sm_k0 rfl (c_X9_mustNumber l D cy ad A Kc C0 N z V69 (1 : Int32) (20 : Int32) V80 q79) ⟨⟨rfl, rfl, Nat.le_of_ble_eq_true rfl, Nat.le_of_ble_eq_true rfl⟩, Nat.le_of_ble_eq_true rfl, Nat.le_of_ble_eq_true rfl⟩ rfl rfl (Nat.le_of_ble_eq_true rfl) dX9_readOrder_103) w (fun H locs w => ?_)
      have g := B106 V80  h
      rw [hG] at g
      exact g H locs ls w (lv_sub hl [0] rfl)
  rw [f_X9_readOrder] at h
  refine lv_aload_n hx hb dX9_readOrder_0 rfl (lv_at hl 0 rfl) ?_
  refine lv_bipush (v := 22) hx hb dX9_readOrder_1 (by decide) ?_
  obtain ⟨r52, V54, q53, h⟩ := obi h
  refine m_ci (m_rV (As := [.int (22 : Int32)]) (rest := []) X w hl mi_X9_takes0 ml_X9_181 0 sm_n0 sm_k0 rfl (c_X9_takes0 l D cy ad A Kc C0 N z V (22 : Int32) r52 V54 q53) ⟨⟨rfl, rfl, Nat.le_of_ble_eq_true rfl, Nat.le_of_ble_eq_true rfl⟩, Nat.le_of_ble_eq_true rfl, Nat.le_of_ble_eq_true rfl⟩ rfl rfl (Nat.le_of_ble_eq_true rfl) dX9_readOrder_3) w (fun H locs w => ?_)
  refine lv_if_eq (tgt := 28) hx hb dX9_readOrder_6 (by decide) (fun c55 => ?_) (fun c55 => ?_)
  · replace h := ifT h c55
    refine lv_aload_n hx hb dX9_readOrder_28 rfl (lv_at hl 0 rfl) ?_
    refine lv_bipush (v := 24) hx hb dX9_readOrder_29 (by decide) ?_
    obtain ⟨r56, V58, q57, h⟩ := obi h
    refine m_ci (m_rV (As := [.int (24 : Int32)]) (rest := []) X w hl mi_X9_takes0 ml_X9_181 0 sm_n0 sm_k0 rfl (c_X9_takes0 l D cy ad A Kc C0 N z V54 (24 : Int32) r56 V58 q57) ⟨⟨rfl, rfl, Nat.le_of_ble_eq_true rfl, Nat.le_of_ble_eq_true rfl⟩, Nat.le_of_ble_eq_true rfl, Nat.le_of_ble_eq_true rfl⟩ rfl rfl (Nat.le_of_ble_eq_true rfl) dX9_readOrder_31) w (fun H locs w => ?_)
    refine lv_if_eq (tgt := 67) hx hb dX9_readOrder_34 (by decide) (fun c59 => ?_) (fun c59 => ?_)
    · replace h := ifT h c59
      refine lv_aload_n hx hb dX9_readOrder_67 rfl (lv_at hl 0 rfl) ?_
      refine lv_bipush (v := 27) hx hb dX9_readOrder_68 (by decide) ?_
      obtain ⟨r60, V62, q61, h⟩ := obi h
      refine m_ci (m_rV (As := [.int (27 : Int32)]) (rest := []) X w hl mi_X9_takes0 ml_X9_181 0 sm_n0 sm_k0 rfl (c_X9_takes0 l D cy ad A Kc C0 N z V58 (27 : Int32) r60 V62 q61) ⟨⟨rfl, rfl, Nat.le_of_ble_eq_true rfl, Nat.le_of_ble_eq_true rfl⟩, Nat.le_of_ble_eq_true rfl, Nat.le_of_ble_eq_true rfl⟩ rfl rfl (Nat.le_of_ble_eq_true rfl) dX9_readOrder_70) w (fun H locs w => ?_)
      refine lv_if_eq (tgt := 84) hx hb dX9_readOrder_73 (by decide) (fun c63 => ?_) (fun c63 => ?_)
      · replace h := ifT h c63
        refine lv_aload_n hx hb dX9_readOrder_84 rfl (lv_at hl 0 rfl) ?_
        refine lv_bipush (v := 28) hx hb dX9_readOrder_85 (by decide) ?_
        obtain ⟨V66, q65, h⟩ := obvi h
        refine m_cv (m_rV (As := [.int (28 : Int32)]) (rest := []) X w hl mi_X9_must ml_X9_194 0 sm_n0 sm_k0 rfl (c_X9_must l D cy ad A Kc C0 N z V62 (28 : Int32) V66 q65) ⟨⟨rfl, rfl, Nat.le_of_ble_eq_true rfl, Nat.le_of_ble_eq_true rfl⟩, Nat.le_of_ble_eq_true rfl, Nat.le_of_ble_eq_true rfl⟩ rfl rfl (Nat.le_of_ble_eq_true rfl) dX9_readOrder_87) w (fun H locs w => ?_)
        have g := B90 V66  h
        rw [hG] at g
        exact g H locs ls w (lv_sub hl [0] rfl)
      · replace h := ifF h c63
        refine lv_aload_n hx hb dX9_readOrder_76 rfl (lv_at hl 0 rfl) ?_
        refine lv_iconst (v := 0) hx hb dX9_readOrder_77 (by decide) ?_
        obtain ⟨V83, q82, h⟩ := obvi h
        refine m_cv (m_rV (As := [.int (0 : Int32)]) (rest := []) X w hl mi_X9_readSum ml_X9_190 0 sm_n0 sm_k0 rfl ((cg_X9_readSum l D cy ad A Kc C0 N z 40).1 V62 (0 : Int32) V83 q82) ⟨⟨rfl, rfl, Nat.le_of_ble_eq_true rfl, Nat.le_of_ble_eq_true rfl⟩, Nat.le_of_ble_eq_true rfl, Nat.le_of_ble_eq_true rfl⟩ rfl rfl (Nat.le_of_ble_eq_true rfl) dX9_readOrder_78) w (fun H locs w => ?_)
        refine lv_goto (tgt := 90) hx hb dX9_readOrder_81 (by decide) ?_
        have g := B90 V83  h
        rw [hG] at g
        exact g H locs ls w (lv_sub hl [0] rfl)
    · replace h := ifF h c59
      refine lv_aload_n hx hb dX9_readOrder_37 rfl (lv_at hl 0 rfl) ?_
      refine lv_iconst (v := 0) hx hb dX9_readOrder_38 (by decide) ?_
      obtain ⟨V86, q85, h⟩ := obvi h
      refine m_cv (m_rV (As := [.int (0 : Int32)]) (rest := []) X w hl mi_X9_readSum ml_X9_190 0 sm_n0 sm_k0 rfl ((cg_X9_readSum l D cy ad A Kc C0 N z 40).1 V58 (0 : Int32) V86 q85) ⟨⟨rfl, rfl, Nat.le_of_ble_eq_true rfl, Nat.le_of_ble_eq_true rfl⟩, Nat.le_of_ble_eq_true rfl, Nat.le_of_ble_eq_true rfl⟩ rfl rfl (Nat.le_of_ble_eq_true rfl) dX9_readOrder_39) w (fun H locs w => ?_)
      refine lv_aload_n hx hb dX9_readOrder_42 rfl (lv_at hl 0 rfl) ?_
      refine lv_bipush (v := 25) hx hb dX9_readOrder_43 (by decide) ?_
      obtain ⟨V89, q88, h⟩ := obvi h
      refine m_cv (m_rV (As := [.int (25 : Int32)]) (rest := []) X w hl mi_X9_must ml_X9_194 0 sm_n0 sm_k0 rfl (c_X9_must l D cy ad A Kc C0 N z V86 (25 : Int32) V89 q88) ⟨⟨rfl, rfl, Nat.le_of_ble_eq_true rfl, Nat.le_of_ble_eq_true rfl⟩, Nat.le_of_ble_eq_true rfl, Nat.le_of_ble_eq_true rfl⟩ rfl rfl (Nat.le_of_ble_eq_true rfl) dX9_readOrder_45) w (fun H locs w => ?_)
      refine lv_aload_n hx hb dX9_readOrder_48 rfl (lv_at hl 0 rfl) ?_
      refine lv_iconst (v := 0) hx hb dX9_readOrder_49 (by decide) ?_
      obtain ⟨V92, q91, h⟩ := obvi h
      refine m_cv (m_rV (As := [.int (0 : Int32)]) (rest := []) X w hl mi_X9_readSum ml_X9_190 0 sm_n0 sm_k0 rfl ((cg_X9_readSum l D cy ad A Kc C0 N z 40).1 V89 (0 : Int32) V92 q91) ⟨⟨rfl, rfl, Nat.le_of_ble_eq_true rfl, Nat.le_of_ble_eq_true rfl⟩, Nat.le_of_ble_eq_true rfl, Nat.le_of_ble_eq_true rfl⟩ rfl rfl (Nat.le_of_ble_eq_true rfl) dX9_readOrder_50) w (fun H locs w => ?_)
      refine lv_aload_n hx hb dX9_readOrder_53 rfl (lv_at hl 0 rfl) ?_
      refine lv_bipush (v := 26) hx hb dX9_readOrder_54 (by decide) ?_
      obtain ⟨V95, q94, h⟩ := obvi h
      refine m_cv (m_rV (As := [.int (26 : Int32)]) (rest := []) X w hl mi_X9_must ml_X9_194 0 sm_n0 sm_k0 rfl (c_X9_must l D cy ad A Kc C0 N z V92 (26 : Int32) V95 q94) ⟨⟨rfl, rfl, Nat.le_of_ble_eq_true rfl, Nat.le_of_ble_eq_true rfl⟩, Nat.le_of_ble_eq_true rfl, Nat.le_of_ble_eq_true rfl⟩ rfl rfl (Nat.le_of_ble_eq_true rfl) dX9_readOrder_56) w (fun H locs w => ?_)
      refine lv_aload_n hx hb dX9_readOrder_59 rfl (lv_at hl 0 rfl) ?_
      refine lv_iconst (v := 0) hx hb dX9_readOrder_60 (by decide) ?_
      obtain ⟨V98, q97, h⟩ := obvi h
      refine m_cv (m_rV (As := [.int (0 : Int32)]) (rest := []) X w hl mi_X9_readSum ml_X9_190 0 sm_n0 sm_k0 rfl ((cg_X9_readSum l D cy ad A Kc C0 N z 40).1 V95 (0 : Int32) V98 q97) ⟨⟨rfl, rfl, Nat.le_of_ble_eq_true rfl, Nat.le_of_ble_eq_true rfl⟩, Nat.le_of_ble_eq_true rfl, Nat.le_of_ble_eq_true rfl⟩ rfl rfl (Nat.le_of_ble_eq_true rfl) dX9_readOrder_61) w (fun H locs w => ?_)
      refine lv_goto (tgt := 90) hx hb dX9_readOrder_64 (by decide) ?_
      have g := B90 V98  h
      rw [hG] at g
      exact g H locs ls w (lv_sub hl [0] rfl)
  · replace h := ifF h c55
    refine lv_aload_n hx hb dX9_readOrder_9 rfl (lv_at hl 0 rfl) ?_
    refine lv_iconst (v := 0) hx hb dX9_readOrder_10 (by decide) ?_
    obtain ⟨V101, q100, h⟩ := obvi h
    refine m_cv (m_rV (As := [.int (0 : Int32)]) (rest := []) X w hl mi_X9_readSum ml_X9_190 0 sm_n0 sm_k0 rfl ((cg_X9_readSum l D cy ad A Kc C0 N z 40).1 V54 (0 : Int32) V101 q100) ⟨⟨rfl, rfl, Nat.le_of_ble_eq_true rfl, Nat.le_of_ble_eq_true rfl⟩, Nat.le_of_ble_eq_true rfl, Nat.le_of_ble_eq_true rfl⟩ rfl rfl (Nat.le_of_ble_eq_true rfl) dX9_readOrder_11) w (fun H locs w => ?_)
    refine lv_aload_n hx hb dX9_readOrder_14 rfl (lv_at hl 0 rfl) ?_
    refine lv_bipush (v := 23) hx hb dX9_readOrder_15 (by decide) ?_
    obtain ⟨V104, q103, h⟩ := obvi h
    refine m_cv (m_rV (As := [.int (23 : Int32)]) (rest := []) X w hl mi_X9_must ml_X9_194 0 sm_n0 sm_k0 rfl (c_X9_must l D cy ad A Kc C0 N z V101 (23 : Int32) V104 q103) ⟨⟨rfl, rfl, Nat.le_of_ble_eq_true rfl, Nat.le_of_ble_eq_true rfl⟩, Nat.le_of_ble_eq_true rfl, Nat.le_of_ble_eq_true rfl⟩ rfl rfl (Nat.le_of_ble_eq_true rfl) dX9_readOrder_17) w (fun H locs w => ?_)
    refine lv_aload_n hx hb dX9_readOrder_20 rfl (lv_at hl 0 rfl) ?_
    refine lv_iconst (v := 0) hx hb dX9_readOrder_21 (by decide) ?_
    obtain ⟨V107, q106, h⟩ := obvi h
    refine m_cv (m_rV (As := [.int (0 : Int32)]) (rest := []) X w hl mi_X9_readSum ml_X9_190 0 sm_n0 sm_k0 rfl ((cg_X9_readSum l D cy ad A Kc C0 N z 40).1 V104 (0 : Int32) V107 q106) ⟨⟨rfl, rfl, Nat.le_of_ble_eq_true rfl, Nat.le_of_ble_eq_true rfl⟩, Nat.le_of_ble_eq_true rfl, Nat.le_of_ble_eq_true rfl⟩ rfl rfl (Nat.le_of_ble_eq_true rfl) dX9_readOrder_22) w (fun H locs w => ?_)
    refine lv_goto (tgt := 90) hx hb dX9_readOrder_25 (by decide) ?_
    have g := B90 V107  h
    rw [hG] at g
    exact g H locs ls w (lv_sub hl [0] rfl)
def f_X9_tells_215 (N : Nat) (K69 : Vt → Int32 → Int32 → Int64 → Option (Int32 × Vt)) (V : Vt) (v1 : Int32) (v4 : Int32) (v6 : Int64) : Option (Int32 × Vt) := bd (sF V 0 22 ((V.1 0 22) + (1 : Int32))) (fun V53 => K69 V53 v1 v4 v6)
def f_X9_tells_213 (N : Nat) (K69 : Vt → Int32 → Int32 → Int64 → Option (Int32 × Vt)) (V : Vt) (v1 : Int32) (v4 : Int32) (s0 : Int64) : Option (Int32 × Vt) := f_X9_tells_215 N K69 V v1 v4 s0
def f_X9_tells_160 (N : Nat) (K69 : Vt → Int32 → Int32 → Int64 → Option (Int32 × Vt)) (V : Vt) (v1 : Int32) (v4 : Int32) (v6 : Int64) (v8 : Int32) (v9 : Int64) (v11 : Int32) (s0 : Int32) : Option (Int32 × Vt) := if v8 = v1 then if s0 = 0 then f_X9_tells_215 N K69 V v1 v4 v6 else if (V.1 0 24) = 0 then if v11 = 0 then if 0 ≤ (lg_cmp v9 (0 : Int64)) then if (lg_cmp v9 (v4.toInt64)) ≤ 0 then f_X9_tells_213 N K69 V v1 v4 v9 else f_X9_tells_213 N K69 V v1 v4 (v4.toInt64) else f_X9_tells_213 N K69 V v1 v4 (0 : Int64) else f_X9_tells_215 N K69 V v1 v4 v6 else f_X9_tells_215 N K69 V v1 v4 v6 else f_X9_tells_215 N K69 V v1 v4 v6
def f_X9_tells_155 (N : Nat) (K69 : Vt → Int32 → Int32 → Int64 → Option (Int32 × Vt)) (V : Vt) (v1 : Int32) (v4 : Int32) (v6 : Int64) (v8 : Int32) (v9 : Int64) (v11 : Int32) : Option (Int32 × Vt) := f_X9_tells_160 N K69 V v1 v4 v6 v8 v9 v11 (1 : Int32)
def f_X9_tells_126 (N : Nat) (K69 : Vt → Int32 → Int32 → Int64 → Option (Int32 × Vt)) (V : Vt) (v1 : Int32) (v4 : Int32) (v6 : Int64) (v8 : Int32) (s0 : Int64) : Option (Int32 × Vt) := bd (V.1 0 24) (fun x46 => bd (sF V 0 24 (0 : Int32)) (fun V47 => ob (f_X9_passes0 N V47 (5 : Int32)) (fun r48 V50 => if r48 = 0 then f_X9_tells_155 N K69 V50 v1 v4 v6 v8 s0 x46 else ob (g_X9_testOf N 40 0 V50 (1 : Int32)) (fun r59 V61 => if r59 = 0 then f_X9_tells_160 N K69 V61 v1 v4 v6 v8 s0 x46 (0 : Int32) else f_X9_tells_155 N K69 V61 v1 v4 v6 v8 s0 x46))))
def f_X9_tells_117 (N : Nat) (K69 : Vt → Int32 → Int32 → Int64 → Option (Int32 × Vt)) (V : Vt) (v1 : Int32) (v4 : Int32) (v6 : Int64) (v8 : Int32) : Option (Int32 × Vt) := f_X9_tells_126 N K69 V v1 v4 v6 v8 (1 : Int64)
def f_X9_tells_69 (N : Nat) : Nat → Vt → Int32 → Int32 → Int64 → Option (Int32 × Vt)
  | 0, _, _, _, _ => none
  | n + 1, V, v1, v4, v6 => if (V.1 0 23) ≤ (V.1 0 22) then some (v6.toInt32, V) else ob1 (f_X9_codeAt N V (V.1 0 22)) (fun r41 => bd (sF V 0 24 (0 : Int32)) (fun V43 => bd (sF V43 0 22 ((V43.1 0 22) + (1 : Int32))) (fun V44 => if r41 = (3 : Int32) then f_X9_tells_117 N (f_X9_tells_69 N n) V44 v1 v4 v6 r41 else if r41 = (4 : Int32) then f_X9_tells_117 N (f_X9_tells_69 N n) V44 v1 v4 v6 r41 else ob (g_X9_sumOf N 40 0 V44 (1 : Int32)) (fun r64 V66 => f_X9_tells_126 N (f_X9_tells_69 N n) V66 v1 v4 v6 r41 r64))))
def f_X9_tells (N : Nat) (V : Vt) (a1 : Int32) (a2 : Int32) (a3 : Int32) (a4 : Int32) (a5 : Int32) : Option (Int32 × Vt) := ck (107 : Int32) 5715 (if (V.2.1 2 (107 : Int32).toNatClampNeg) = (-1 : Int32) then some (a5, V) else obv (f_X9_setsAsked N V a2 a3) (fun V32 => bd (sF V32 0 25 (0 : Int32)) (fun V33 => bd (a5.toInt64) (fun x34 => ck (107 : Int32) 5715 (bd (sF V33 0 22 ((400 : Int32) * (V33.2.1 2 (107 : Int32).toNatClampNeg))) (fun V36 => ck (107 : Int32) 5715 (ck ((108 : Int32) + (V36.2.1 2 (107 : Int32).toNatClampNeg)) 5715 (bd (sF V36 0 23 ((V36.1 0 22) + (V36.2.1 2 ((108 : Int32) + (V36.2.1 2 (107 : Int32).toNatClampNeg)).toNatClampNeg))) (fun V39 => f_X9_tells_69 N N V39 a1 a4 x34)))))))))
set_option maxHeartbeats 4000000 in
set_option maxRecDepth 100000 in
theorem c_X9_tells (l : Launch) (D : va_G) (cy : Nat → ClassId) (ad : Nat → Nat) (A : Nat → Prop) (Kc : State → Prop) (C0 : Cx ad A Kc) (N : Nat) (z : Nat) (V : Vt) (a1 : Int32) (a2 : Int32) (a3 : Int32) (a4 : Int32) (a5 : Int32) (r : Int32) (V' : Vt) (h : f_X9_tells N V a1 a2 a3 a4 a5 = some (r, V')) : Met l yX9_tells (mw yX9_tells cX9_tells 13 (some .int)) { frames := 85, cells := 0, slots := 0, locals := 4914 } (PreM D cy ad Kc (SM z) V [.ref (ad 0), .int a1, .int a2, .int a3, .int a4, .int a5]) (QI D cy ad A r (SM z) V') 0 0 A := by
  refine ct_go C0 (own := RX9) rfl (by decide) rfl ?_
  intro p e s m below meth c ls H locs X hr hlocks hnm hl w
  have hx := X.1.1
  have hb := X.1.2.1
  have hown := X.2.1
  have hts := X.2.2.1
  have hl : lv_has ls 13 [(0, .ref (ad 0)), (1, .int a1), (2, .int a2), (3, .int a3), (4, .int a4), (5, .int a5)] := hl
  obtain ⟨G, hG⟩ : ∃ G : Nat → Vt → List (Nat × Value) → List Value → Prop, G = fun pc V lv st => ∀ (H : Heap) (locs : List Loc) (ls : Array Slot), Wd D cy ad A s.heap (SM z) V H locs → lv_has ls 13 lv → W p l e { frames := 85, cells := 0, slots := 0, locals := 4914 } s m ([.ref (ad 0), .int a1, .int a2, .int a3, .int a4, .int a5] : List Value).toArray below meth c H locs 0 0 (MQ below (QI D cy ad A r (SM z) V') ([.ref (ad 0), .int a1, .int a2, .int a3, .int a4, .int a5] : List Value).toArray s 0 0 A) (F0 m pc ls st) := ⟨_, rfl⟩
  have L69 : ∀ (n69 : Nat) (V : Vt) (v1 : Int32) (v4 : Int32) (v6 : Int64), f_X9_tells_69 N n69 V v1 v4 v6 = some (r, V') → G 69 V [(0, .ref (ad 0)), (1, .int v1), (4, .int v4), (6, .long v6)] [] := by
    intro n69
    induction n69 with
    | zero => intro V v1 v4 v6 h; rw [f_X9_tells_69] at h; cases h
    | succ n69 ih69 =>
      have B215 : ∀ (V : Vt) (v1 : Int32) (v4 : Int32) (v6 : Int64), f_X9_tells_215 N (f_X9_tells_69 N n69) V v1 v4 v6 = some (r, V') → G 215 V [(0, .ref (ad 0)), (1, .int v1), (4, .int v4), (6, .long v6)] [] := by
        intro V v1 v4 v6 h
        rw [hG]
        intro H locs ls w hl
        rw [f_X9_tells_215] at h
        refine lv_aload_n hx hb dX9_tells_215 rfl (lv_at hl 0 rfl) ?_
        refine lv_dup hx hb dX9_tells_216 rfl ?_
        refine m_get X w 0 sm_n0 sm_k0 ci9 22 (by decide) (fvI sm_k0 rfl) rfl fl_X9_258 dX9_tells_217 ?_
        refine lv_iconst (v := 1) hx hb dX9_tells_220 (by decide) ?_
        refine lv_iadd hx hb dX9_tells_221 ?_
        refine m_put X w 0 sm_n0 sm_k0 ci9 22 (by decide) rfl rfl rfl rfl rfl fl_X9_258 dX9_tells_222 (fun V53 H locs eV53 w => ?_)
        replace h := bdi h _ eV53
        refine lv_goto (tgt := 69) hx hb dX9_tells_225 (by decide) ?_
        have g := ih69 V53 v1 v4 v6 h
        rw [hG] at g
        exact g H locs ls w (lv_sub hl [0, 1, 2, 3] rfl)
      have B213 : ∀ (V : Vt) (v1 : Int32) (v4 : Int32) (s0 : Int64), f_X9_tells_213 N (f_X9_tells_69 N n69) V v1 v4 s0 = some (r, V') → G 213 V [(0, .ref (ad 0)), (1, .int v1), (4, .int v4)] [.long s0] := by
        intro V v1 v4 s0 h
        rw [hG]
        intro H locs ls w hl
        rw [f_X9_tells_213] at h
        refine lv_lstore (lv' := [(6, .long s0), (0, .ref (ad 0)), (1, .int v1), (4, .int v4)]) hx hb dX9_tells_213 hl (by decide) rfl (fun ls hl => ?_)
        have g := B215 V v1 v4 s0 h
        rw [hG] at g
        exact g H locs ls w (lv_sub hl [1, 2, 3, 0] rfl)
      have B160 : ∀ (V : Vt) (v1 : Int32) (v4 : Int32) (v6 : Int64) (v8 : Int32) (v9 : Int64) (v11 : Int32) (s0 : Int32), f_X9_tells_160 N (f_X9_tells_69 N n69) V v1 v4 v6 v8 v9 v11 s0 = some (r, V') → G 160 V [(0, .ref (ad 0)), (1, .int v1), (4, .int v4), (6, .long v6), (8, .int v8), (9, .long v9), (11, .int v11)] [.int s0] := by
        intro V v1 v4 v6 v8 v9 v11 s0 h
        rw [hG]
        intro H locs ls w hl
        rw [f_X9_tells_160] at h
        refine lv_istore (lv' := [(12, .int s0), (0, .ref (ad 0)), (1, .int v1), (4, .int v4), (6, .long v6), (8, .int v8), (9, .long v9), (11, .int v11)]) hx hb dX9_tells_160 hl (by decide) rfl (fun ls hl => ?_)
        refine lv_iload hx hb dX9_tells_162 (lv_at hl 5 rfl) ?_
        refine lv_iload_n hx hb dX9_tells_164 rfl (lv_at hl 2 rfl) ?_
        refine lv_icmp_ne (tgt := 215) hx hb dX9_tells_165 (by decide) (fun c52 => ?_) (fun c52 => ?_)
        · replace h := ifF h c52
          have g := B215 V v1 v4 v6 h
          rw [hG] at g
          exact g H locs ls w (lv_sub hl [1, 2, 3, 4] rfl)
        · replace h := ifT h c52
          refine lv_iload hx hb dX9_tells_168 (lv_at hl 0 rfl) ?_
          refine lv_if_eq (tgt := 215) hx hb dX9_tells_170 (by decide) (fun c54 => ?_) (fun c54 => ?_)
          · replace h := ifT h c54
            have g := B215 V v1 v4 v6 h
            rw [hG] at g
            exact g H locs ls w (lv_sub hl [1, 2, 3, 4] rfl)
          · replace h := ifF h c54
            refine lv_aload_n hx hb dX9_tells_173 rfl (lv_at hl 1 rfl) ?_
            refine m_get X w 0 sm_n0 sm_k0 ci9 24 (by decide) (fvI sm_k0 rfl) rfl fl_X9_268 dX9_tells_174 ?_
            refine lv_if_ne (tgt := 215) hx hb dX9_tells_177 (by decide) (fun c55 => ?_) (fun c55 => ?_)
            · replace h := ifF h c55
              have g := B215 V v1 v4 v6 h
              rw [hG] at g
              exact g H locs ls w (lv_sub hl [1, 2, 3, 4] rfl)
            · replace h := ifT h c55
              refine lv_iload hx hb dX9_tells_180 (lv_at hl 7 rfl) ?_
              refine lv_if_ne (tgt := 215) hx hb dX9_tells_182 (by decide) (fun c56 => ?_) (fun c56 => ?_)
              · replace h := ifF h c56
                have g := B215 V v1 v4 v6 h
                rw [hG] at g
                exact g H locs ls w (lv_sub hl [1, 2, 3, 4] rfl)
              · replace h := ifT h c56
                refine lv_lload hx hb dX9_tells_185 (lv_at hl 6 rfl) ?_
                refine lv_lconst (v := 0) hx hb dX9_tells_187 (by decide) ?_
                refine W.lcmp hx hb dX9_tells_188 ?_
                refine lv_if_ge (tgt := 196) hx hb dX9_tells_189 (by decide) (fun c57 => ?_) (fun c57 => ?_)
                · replace h := ifT h c57
                  refine lv_lload hx hb dX9_tells_196 (lv_at hl 6 rfl) ?_
                  refine lv_iload hx hb dX9_tells_198 (lv_at hl 3 rfl) ?_
                  refine lv_i2l hx hb dX9_tells_200 rfl ?_
                  refine W.lcmp hx hb dX9_tells_201 ?_
                  refine lv_if_le (tgt := 211) hx hb dX9_tells_202 (by decide) (fun c58 => ?_) (fun c58 => ?_)
                  · replace h := ifT h c58
                    refine lv_lload hx hb dX9_tells_211 (lv_at hl 6 rfl) ?_
                    have g := B213 V v1 v4 v9 h
                    rw [hG] at g
                    exact g H locs ls w (lv_sub hl [1, 2, 3] rfl)
                  · replace h := ifF h c58
                    refine lv_iload hx hb dX9_tells_205 (lv_at hl 3 rfl) ?_
                    refine lv_i2l hx hb dX9_tells_207 rfl ?_
                    refine lv_goto (tgt := 213) hx hb dX9_tells_208 (by decide) ?_
                    have g := B213 V v1 v4 (v4.toInt64) h
                    rw [hG] at g
                    exact g H locs ls w (lv_sub hl [1, 2, 3] rfl)
                · replace h := ifF h c57
                  refine lv_lconst (v := 0) hx hb dX9_tells_192 (by decide) ?_
                  refine lv_goto (tgt := 213) hx hb dX9_tells_193 (by decide) ?_
                  have g := B213 V v1 v4 (0 : Int64) h
                  rw [hG] at g
                  exact g H locs ls w (lv_sub hl [1, 2, 3] rfl)
      have B155 : ∀ (V : Vt) (v1 : Int32) (v4 : Int32) (v6 : Int64) (v8 : Int32) (v9 : Int64) (v11 : Int32), f_X9_tells_155 N (f_X9_tells_69 N n69) V v1 v4 v6 v8 v9 v11 = some (r, V') → G 155 V [(0, .ref (ad 0)), (1, .int v1), (4, .int v4), (6, .long v6), (8, .int v8), (9, .long v9), (11, .int v11)] [] := by
        intro V v1 v4 v6 v8 v9 v11 h
        rw [hG]
        intro H locs ls w hl
        rw [f_X9_tells_155] at h
        refine lv_iconst (v := 1) hx hb dX9_tells_155 (by decide) ?_
        refine lv_goto (tgt := 160) hx hb dX9_tells_156 (by decide) ?_
        have g := B160 V v1 v4 v6 v8 v9 v11 (1 : Int32) h
        rw [hG] at g
        exact g H locs ls w (lv_sub hl [0, 1, 2, 3, 4, 5, 6] rfl)
      have B126 : ∀ (V : Vt) (v1 : Int32) (v4 : Int32) (v6 : Int64) (v8 : Int32) (s0 : Int64), f_X9_tells_126 N (f_X9_tells_69 N n69) V v1 v4 v6 v8 s0 = some (r, V') → G 126 V [(0, .ref (ad 0)), (1, .int v1), (4, .int v4), (6, .long v6), (8, .int v8)] [.long s0] := by
        intro V v1 v4 v6 v8 s0 h
        rw [hG]
        intro H locs ls w hl
        rw [f_X9_tells_126] at h
        refine lv_lstore (lv' := [(9, .long s0), (0, .ref (ad 0)), (1, .int v1), (4, .int v4), (6, .long v6), (8, .int v8)]) hx hb dX9_tells_126 hl (by decide) rfl (fun ls hl => ?_)
        refine lv_aload_n hx hb dX9_tells_128 rfl (lv_at hl 1 rfl) ?_
        refine m_get X w 0 sm_n0 sm_k0 ci9 24 (by decide) (fvI sm_k0 rfl) rfl fl_X9_268 dX9_tells_129 ?_
        refine lv_topi (fun x46 ex46 => ?_)
        replace h := bdi h _ ex46
        refine lv_istore (lv' := [(11, .int x46), (9, .long s0), (0, .ref (ad 0)), (1, .int v1), (4, .int v4), (6, .long v6), (8, .int v8)]) hx hb dX9_tells_132 hl (by decide) rfl (fun ls hl => ?_)
        refine lv_aload_n hx hb dX9_tells_134 rfl (lv_at hl 2 rfl) ?_
        refine lv_iconst (v := 0) hx hb dX9_tells_135 (by decide) ?_
        refine m_put X w 0 sm_n0 sm_k0 ci9 24 (by decide) rfl rfl rfl rfl rfl fl_X9_268 dX9_tells_136 (fun V47 H locs eV47 w => ?_)
        replace h := bdi h _ eV47
        refine lv_aload_n hx hb dX9_tells_139 rfl (lv_at hl 2 rfl) ?_
        refine lv_iconst (v := 5) hx hb dX9_tells_140 (by decide) ?_
        obtain ⟨r48, V50, q49, h⟩ := obi h
        refine m_ci (m_rV (As := [.int (5 : Int32)]) (rest := []) X w hl mi_X9_passes0 ml_X9_282 0 sm_n0 sm_k0 rfl (c_X9_passes0 l D cy ad A Kc C0 N z V47 (5 : Int32) r48 V50 q49) ⟨⟨rfl, rfl, Nat.le_of_ble_eq_true rfl, Nat.le_of_ble_eq_true rfl⟩, Nat.le_of_ble_eq_true rfl, Nat.le_of_ble_eq_true rfl⟩ rfl rfl (Nat.le_of_ble_eq_true rfl) dX9_tells_141) w (fun H locs w => ?_)
        refine lv_if_eq (tgt := 155) hx hb dX9_tells_144 (by decide) (fun c51 => ?_) (fun c51 => ?_)
        · replace h := ifT h c51
          have g := B155 V50 v1 v4 v6 v8 s0 x46 h
          rw [hG] at g
          exact g H locs ls w (lv_sub hl [2, 3, 4, 5, 6, 1, 0] rfl)
        · replace h := ifF h c51
          refine lv_aload_n hx hb dX9_tells_147 rfl (lv_at hl 2 rfl) ?_
          refine lv_iconst (v := 1) hx hb dX9_tells_148 (by decide) ?_
          obtain ⟨r59, V61, q60, h⟩ := obi h
          refine m_ci (m_rV (As := [.int (1 : Int32)]) (rest := []) X w hl mi_X9_testOf ml_X9_309 0 sm_n0 sm_k0 rfl ((cg_X9_testOf l D cy ad A Kc C0 N z 40).1 V50 (1 : Int32) r59 V61 q60) ⟨⟨rfl, rfl, Nat.le_of_ble_eq_true rfl, Nat.le_of_ble_eq_true rfl⟩, Nat.le_of_ble_eq_true rfl, Nat.le_of_ble_eq_true rfl⟩ rfl rfl (Nat.le_of_ble_eq_true rfl) dX9_tells_149) w (fun H locs w => ?_)
          refine lv_if_eq (tgt := 159) hx hb dX9_tells_152 (by decide) (fun c62 => ?_) (fun c62 => ?_)
          · replace h := ifT h c62
            refine lv_iconst (v := 0) hx hb dX9_tells_159 (by decide) ?_
            have g := B160 V61 v1 v4 v6 v8 s0 x46 (0 : Int32) h
            rw [hG] at g
            exact g H locs ls w (lv_sub hl [2, 3, 4, 5, 6, 1, 0] rfl)
          · replace h := ifF h c62
            have g := B155 V61 v1 v4 v6 v8 s0 x46 h
            rw [hG] at g
            exact g H locs ls w (lv_sub hl [2, 3, 4, 5, 6, 1, 0] rfl)
      have B117 : ∀ (V : Vt) (v1 : Int32) (v4 : Int32) (v6 : Int64) (v8 : Int32), f_X9_tells_117 N (f_X9_tells_69 N n69) V v1 v4 v6 v8 = some (r, V') → G 117 V [(0, .ref (ad 0)), (1, .int v1), (4, .int v4), (6, .long v6), (8, .int v8)] [] := by
        intro V v1 v4 v6 v8 h
        rw [hG]
        intro H locs ls w hl
        rw [f_X9_tells_117] at h
        refine lv_lconst (v := 1) hx hb dX9_tells_117 (by decide) ?_
        refine lv_goto (tgt := 126) hx hb dX9_tells_118 (by decide) ?_
        have g := B126 V v1 v4 v6 v8 (1 : Int64) h
        rw [hG] at g
        exact g H locs ls w (lv_sub hl [0, 1, 2, 3, 4] rfl)
      intro V v1 v4 v6 h
      rw [hG]
      intro H locs ls w hl
      rw [f_X9_tells_69] at h
      refine lv_aload_n hx hb dX9_tells_69 rfl (lv_at hl 0 rfl) ?_
      refine m_get X w 0 sm_n0 sm_k0 ci9 22 (by decide) (fvI sm_k0 rfl) rfl fl_X9_258 dX9_tells_70 ?_
      refine lv_aload_n hx hb dX9_tells_73 rfl (lv_at hl 0 rfl) ?_
      refine m_get X w 0 sm_n0 sm_k0 ci9 23 (by decide) (fvI sm_k0 rfl) rfl fl_X9_255 dX9_tells_74 ?_
      refine lv_icmp_ge (tgt := 228) hx hb dX9_tells_77 (by decide) (fun c40 => ?_) (fun c40 => ?_)
      · replace h := ifT h c40
        refine lv_lload hx hb dX9_tells_228 (lv_at hl 3 rfl) ?_
        refine lv_l2i hx hb dX9_tells_230 rfl ?_
        obtain ⟨rfl, rfl⟩ := reti h
        exact m_ri X w hr hlocks dX9_tells_231
      · replace h := ifF h c40
        refine lv_aload_n hx hb dX9_tells_80 rfl (lv_at hl 0 rfl) ?_
        refine lv_aload_n hx hb dX9_tells_81 rfl (lv_at hl 0 rfl) ?_
        refine m_get X w 0 sm_n0 sm_k0 ci9 22 (by decide) (fvI sm_k0 rfl) rfl fl_X9_258 dX9_tells_82 ?_
        obtain ⟨r41, q42, h⟩ := ob1i h
        refine m_ci (m_rV (As := [.int (V.1 0 22)]) (rest := []) X w hl mi_X9_codeAt ml_X9_261 0 sm_n0 sm_k0 rfl (c_X9_codeAt l D cy ad A Kc C0 N z V (V.1 0 22) r41 q42) ⟨⟨rfl, rfl, Nat.le_of_ble_eq_true rfl, Nat.le_of_ble_eq_true rfl⟩, Nat.le_of_ble_eq_true rfl, Nat.le_of_ble_eq_true rfl⟩ rfl rfl (Nat.le_of_ble_eq_true rfl) dX9_tells_85) w (fun H locs w => ?_)
        refine lv_istore (lv' := [(8, .int r41), (0, .ref (ad 0)), (1, .int v1), (4, .int v4), (6, .long v6)]) hx hb dX9_tells_88 hl (by decide) rfl (fun ls hl => ?_)
        refine lv_aload_n hx hb dX9_tells_90 rfl (lv_at hl 1 rfl) ?_
        refine lv_iconst (v := 0) hx hb dX9_tells_91 (by decide) ?_
        refine m_put X w 0 sm_n0 sm_k0 ci9 24 (by decide) rfl rfl rfl rfl rfl fl_X9_268 dX9_tells_92 (fun V43 H locs eV43 w => ?_)
        replace h := bdi h _ eV43
        refine lv_aload_n hx hb dX9_tells_95 rfl (lv_at hl 1 rfl) ?_
        refine lv_dup hx hb dX9_tells_96 rfl ?_
        refine m_get X w 0 sm_n0 sm_k0 ci9 22 (by decide) (fvI sm_k0 rfl) rfl fl_X9_258 dX9_tells_97 ?_
        refine lv_iconst (v := 1) hx hb dX9_tells_100 (by decide) ?_
        refine lv_iadd hx hb dX9_tells_101 ?_
        refine m_put X w 0 sm_n0 sm_k0 ci9 22 (by decide) rfl rfl rfl rfl rfl fl_X9_258 dX9_tells_102 (fun V44 H locs eV44 w => ?_)
        replace h := bdi h _ eV44
        refine lv_iload hx hb dX9_tells_105 (lv_at hl 0 rfl) ?_
        refine lv_iconst (v := 3) hx hb dX9_tells_107 (by decide) ?_
        refine lv_icmp_eq (tgt := 117) hx hb dX9_tells_108 (by decide) (fun c45 => ?_) (fun c45 => ?_)
        · replace h := ifT h c45
          have g := B117 V44 v1 v4 v6 r41 h
          rw [hG] at g
          exact g H locs ls w (lv_sub hl [1, 2, 3, 4, 0] rfl)
        · replace h := ifF h c45
          refine lv_iload hx hb dX9_tells_111 (lv_at hl 0 rfl) ?_
          refine lv_iconst (v := 4) hx hb dX9_tells_113 (by decide) ?_
          refine lv_icmp_ne (tgt := 121) hx hb dX9_tells_114 (by decide) (fun c63 => ?_) (fun c63 => ?_)
          · replace h := ifF h c63
            refine lv_aload_n hx hb dX9_tells_121 rfl (lv_at hl 1 rfl) ?_
            refine lv_iconst (v := 1) hx hb dX9_tells_122 (by decide) ?_
            obtain ⟨r64, V66, q65, h⟩ := obi h
            refine m_cl (m_rV (As := [.int (1 : Int32)]) (rest := []) X w hl mi_X9_sumOf ml_X9_285 0 sm_n0 sm_k0 rfl ((cg_X9_sumOf l D cy ad A Kc C0 N z 40).1 V44 (1 : Int32) r64 V66 q65) ⟨⟨rfl, rfl, Nat.le_of_ble_eq_true rfl, Nat.le_of_ble_eq_true rfl⟩, Nat.le_of_ble_eq_true rfl, Nat.le_of_ble_eq_true rfl⟩ rfl rfl (Nat.le_of_ble_eq_true rfl) dX9_tells_123) w (fun H locs w => ?_)
            have g := B126 V66 v1 v4 v6 r41 r64 h
            rw [hG] at g
            exact g H locs ls w (lv_sub hl [1, 2, 3, 4, 0] rfl)
          · replace h := ifT h c63
            have g := B117 V44 v1 v4 v6 r41 h
            rw [hG] at g
            exact g H locs ls w (lv_sub hl [1, 2, 3, 4, 0] rfl)
  rw [f_X9_tells] at h
  refine lv_aload_n hx hb dX9_tells_0 rfl (lv_at hl 0 rfl) ?_
  refine m_get X w 0 sm_n0 sm_k0 ci9 2 (by decide) (fvR sm_k0 rfl sm_p2) rfl fl_X9_28 dX9_tells_1 ?_
  refine lv_bipush (v := 107) hx hb dX9_tells_4 (by decide) ?_
  obtain ⟨g28, h⟩ := cki h
  refine m_iald X w 2 sm_n2 sm_k2 sm_z2 g28 dX9_tells_6 ?_
  refine lv_iconst (v := (-1)) hx hb dX9_tells_7 (by decide) ?_
  refine lv_icmp_ne (tgt := 14) hx hb dX9_tells_8 (by decide) (fun c29 => ?_) (fun c29 => ?_)
  · replace h := ifF h c29
    refine lv_aload_n hx hb dX9_tells_14 rfl (lv_at hl 0 rfl) ?_
    refine lv_iload_n hx hb dX9_tells_15 rfl (lv_at hl 2 rfl) ?_
    refine lv_iload_n hx hb dX9_tells_16 rfl (lv_at hl 3 rfl) ?_
    obtain ⟨V32, q31, h⟩ := obvi h
    refine m_cv (m_rV (As := [.int a2, .int a3]) (rest := []) X w hl mi_X9_setsAsked ml_X9_312 0 sm_n0 sm_k0 rfl (c_X9_setsAsked l D cy ad A Kc C0 N z V a2 a3 V32 q31) ⟨⟨rfl, rfl, Nat.le_of_ble_eq_true rfl, Nat.le_of_ble_eq_true rfl⟩, Nat.le_of_ble_eq_true rfl, Nat.le_of_ble_eq_true rfl⟩ rfl rfl (Nat.le_of_ble_eq_true rfl) dX9_tells_17) w (fun H locs w => ?_)
    refine lv_aload_n hx hb dX9_tells_20 rfl (lv_at hl 0 rfl) ?_
    refine lv_iconst (v := 0) hx hb dX9_tells_21 (by decide) ?_
    refine m_put X w 0 sm_n0 sm_k0 ci9 25 (by decide) rfl rfl rfl rfl rfl fl_X9_288 dX9_tells_22 (fun V33 H locs eV33 w => ?_)
    replace h := bdi h _ eV33
    refine lv_iload hx hb dX9_tells_25 (lv_at hl 5 rfl) ?_
    refine lv_i2l hx hb dX9_tells_27 rfl ?_
    refine lv_topl (fun x34 ex34 => ?_)
    replace h := bdi h _ ex34
    refine lv_lstore (lv' := [(6, .long x34), (0, .ref (ad 0)), (1, .int a1), (2, .int a2), (3, .int a3), (4, .int a4), (5, .int a5)]) hx hb dX9_tells_28 hl (by decide) rfl (fun ls hl => ?_)
    refine lv_aload_n hx hb dX9_tells_30 rfl (lv_at hl 1 rfl) ?_
    refine lv_sipush (v := 400) hx hb dX9_tells_31 (by decide) ?_
    refine lv_aload_n hx hb dX9_tells_34 rfl (lv_at hl 1 rfl) ?_
    refine m_get X w 0 sm_n0 sm_k0 ci9 2 (by decide) (fvR sm_k0 rfl sm_p2) rfl fl_X9_28 dX9_tells_35 ?_
    refine lv_bipush (v := 107) hx hb dX9_tells_38 (by decide) ?_
    obtain ⟨g35, h⟩ := cki h
    refine m_iald X w 2 sm_n2 sm_k2 sm_z2 g35 dX9_tells_40 ?_
    refine lv_imul hx hb dX9_tells_41 ?_
    refine m_put X w 0 sm_n0 sm_k0 ci9 22 (by decide) rfl rfl rfl rfl rfl fl_X9_258 dX9_tells_42 (fun V36 H locs eV36 w => ?_)
    replace h := bdi h _ eV36
    refine lv_aload_n hx hb dX9_tells_45 rfl (lv_at hl 1 rfl) ?_
    refine lv_aload_n hx hb dX9_tells_46 rfl (lv_at hl 1 rfl) ?_
    refine m_get X w 0 sm_n0 sm_k0 ci9 22 (by decide) (fvI sm_k0 rfl) rfl fl_X9_258 dX9_tells_47 ?_
    refine lv_aload_n hx hb dX9_tells_50 rfl (lv_at hl 1 rfl) ?_
    refine m_get X w 0 sm_n0 sm_k0 ci9 2 (by decide) (fvR sm_k0 rfl sm_p2) rfl fl_X9_28 dX9_tells_51 ?_
    refine lv_bipush (v := 108) hx hb dX9_tells_54 (by decide) ?_
    refine lv_aload_n hx hb dX9_tells_56 rfl (lv_at hl 1 rfl) ?_
    refine m_get X w 0 sm_n0 sm_k0 ci9 2 (by decide) (fvR sm_k0 rfl sm_p2) rfl fl_X9_28 dX9_tells_57 ?_
    refine lv_bipush (v := 107) hx hb dX9_tells_60 (by decide) ?_
    obtain ⟨g37, h⟩ := cki h
    refine m_iald X w 2 sm_n2 sm_k2 sm_z2 g37 dX9_tells_62 ?_
    refine lv_iadd hx hb dX9_tells_63 ?_
    obtain ⟨g38, h⟩ := cki h
    refine m_iald X w 2 sm_n2 sm_k2 sm_z2 g38 dX9_tells_64 ?_
    refine lv_iadd hx hb dX9_tells_65 ?_
    refine m_put X w 0 sm_n0 sm_k0 ci9 23 (by decide) rfl rfl rfl rfl rfl fl_X9_255 dX9_tells_66 (fun V39 H locs eV39 w => ?_)
    replace h := bdi h _ eV39
    have g := L69 N V39 a1 a4 x34 h
    rw [hG] at g
    exact g H locs ls w (lv_sub hl [1, 2, 5, 0] rfl)
  · replace h := ifT h c29
    refine lv_iload hx hb dX9_tells_11 (lv_at hl 5 rfl) ?_
    obtain ⟨rfl, rfl⟩ := reti h
    exact m_ri X w hr hlocks dX9_tells_13
