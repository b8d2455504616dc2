def f_X9_goesAlong_247 (N : Nat) (V : Vt) (s0 : Int32) : Option Vt := cb s0 (bd (sF V 0 45 s0) (fun V61 => bd (sF V61 0 22 ((V61.1 0 22) + (1 : Int32))) (fun V62 => some V62)))
def f_X9_goesAlong_246 (N : Nat) (V : Vt) : Option Vt := f_X9_goesAlong_247 N V (0 : Int32)
def f_X9_goesAlong_224 (N : Nat) (V : Vt) (s0 : Int32) : Option Vt := cb s0 (bd (sF V 0 45 s0) (fun V58 => if (V58.1 0 45) = 0 then f_X9_goesAlong_246 N V58  else if (V58.1 0 24) = 0 then f_X9_goesAlong_247 N V58 (1 : Int32) else f_X9_goesAlong_246 N V58 ))
def f_X9_goesAlong_219 (N : Nat) (V : Vt) : Option Vt := f_X9_goesAlong_224 N V (1 : Int32)
def f_X9_goesAlong_197 (N : Nat) (V : Vt) (v2 : Int32) : Option Vt := bd (sF V 0 24 (0 : Int32)) (fun V52 => ob (f_X9_passes0 N V52 (5 : Int32)) (fun r53 V55 => if r53 = 0 then f_X9_goesAlong_219 N V55  else ob (g_X9_testOf N 40 0 V55 v2) (fun r64 V66 => if r64 = 0 then f_X9_goesAlong_224 N V66 (0 : Int32) else f_X9_goesAlong_219 N V66 )))
def f_X9_goesAlong_147 (N : Nat) (K89 : Vt → Int32 → Int32 → Int32 → Option Vt) (V : Vt) (v2 : Int32) (v3 : Int32) (v4 : Int32) (s0 : Int32) : Option Vt := cb s0 (bd (sF V 0 44 s0) (fun V80 => bd (v4 + (1 : Int32)) (fun x81 => K89 V80 v2 v3 x81)))
def f_X9_goesAlong_146 (N : Nat) (K89 : Vt → Int32 → Int32 → Int32 → Option Vt) (V : Vt) (v2 : Int32) (v3 : Int32) (v4 : Int32) : Option Vt := f_X9_goesAlong_147 N K89 V v2 v3 v4 (0 : Int32)
def f_X9_goesAlong_110 (N : Nat) (K89 : Vt → Int32 → Int32 → Int32 → Option Vt) (V : Vt) (v2 : Int32) (v3 : Int32) (v4 : Int32) : Option Vt := bd (sF V 0 24 (0 : Int32)) (fun V72 => ob (g_X9_sumOf N 40 0 V72 v2) (fun r73 V75 => ck v4 3 (bd (sJ V75 23 v4.toNatClampNeg r73) (fun V77 => if (V77.1 0 44) = 0 then f_X9_goesAlong_146 N K89 V77 v2 v3 v4 else if (V77.1 0 24) = 0 then f_X9_goesAlong_147 N K89 V77 v2 v3 v4 (1 : Int32) else f_X9_goesAlong_146 N K89 V77 v2 v3 v4))))
def f_X9_goesAlong_89 (N : Nat) : Nat → Vt → Int32 → Int32 → Int32 → Option Vt
  | 0, _, _, _, _ => none
  | n + 1, V, v2, v3, v4 => if v3 ≤ v4 then bd (sF V 0 42 (1 : Int32)) (fun V47 => ob (f_X9_passes0 N V47 (29 : Int32)) (fun r48 V50 => if r48 = 0 then f_X9_goesAlong_197 N V50 v2 else ck ((2915 : Int32) + (V50.1 0 22)) 5715 (bd (sF V50 0 42 (V50.2.1 2 ((2915 : Int32) + (V50.1 0 22)).toNatClampNeg)) (fun V69 => bd (sF V69 0 22 ((V69.1 0 22) + (1 : Int32))) (fun V70 => f_X9_goesAlong_197 N V70 v2))))) else if v4 ≤ 0 then f_X9_goesAlong_110 N (f_X9_goesAlong_89 N n) V v2 v3 v4 else bd (sF V 0 22 ((V.1 0 22) + (1 : Int32))) (fun V83 => f_X9_goesAlong_110 N (f_X9_goesAlong_89 N n) V83 v2 v3 v4)
def f_X9_goesAlong_85 (N : Nat) (V : Vt) (v2 : Int32) (s0 : Int32) : Option Vt := f_X9_goesAlong_89 N N V v2 s0 (0 : Int32)
def f_X9_goesAlong (N : Nat) (V : Vt) (a1 : Int32) (a2 : Int32) : Option Vt := bd (sF V 0 25 (1 : Int32)) (fun V35 => bd (sF V35 0 23 a1) (fun V36 => bd (sF V36 0 22 (V36.1 0 41)) (fun V37 => ob1 (f_X9_codeAt N V37 (V37.1 0 22)) (fun r38 => bd (sF V37 0 43 r38) (fun V40 => bd (sF V40 0 22 ((V40.1 0 22) + (1 : Int32))) (fun V41 => bd (sF V41 0 44 (1 : Int32)) (fun V42 => if (V42.1 0 43) = (28 : Int32) then f_X9_goesAlong_85 N V42 a2 (0 : Int32) else if (V42.1 0 43) = (27 : Int32) then f_X9_goesAlong_85 N V42 a2 (1 : Int32) else if (V42.1 0 43) = (22 : Int32) then f_X9_goesAlong_85 N V42 a2 (2 : Int32) else f_X9_goesAlong_85 N V42 a2 (3 : Int32))))))))
set_option maxHeartbeats 4000000 in
set_option maxRecDepth 100000 in
theorem c_X9_goesAlong (l : Launch) (D : va_G) (cy : Nat → ClassId) (ad : Nat → Nat) (A : Nat → Prop) (Kc : State → Prop) (C0 : Cx ad A Kc) (N : Nat) (z : Nat) (V : Vt) (a1 : Int32) (a2 : Int32) (V' : Vt) (h : f_X9_goesAlong N V a1 a2 = some V') : Met l yX9_goesAlong (mw yX9_goesAlong cX9_goesAlong 5 none) { frames := 85, cells := 0, slots := 0, locals := 4914 } (PreM D cy ad Kc (SM z) V [.ref (ad 0), .int a1, .int a2]) (QV D cy ad A (SM z) V') 0 0 A := by
  refine ct_go C0 (own := RX9) rfl (by decide) rfl ?_
  intro p e s m below meth c ls H locs X hr hlocks hnm hl w
  have hx := X.1.1
  have hb := X.1.2.1
  have hown := X.2.1
  have hts := X.2.2.1
  have hl : lv_has ls 5 [(0, .ref (ad 0)), (1, .int a1), (2, .int a2)] := hl
  obtain ⟨G, hG⟩ : ∃ G : Nat → Vt → List (Nat × Value) → List Value → Prop, G = fun pc V lv st => ∀ (H : Heap) (locs : List Loc) (ls : Array Slot), Wd D cy ad A s.heap (SM z) V H locs → lv_has ls 5 lv → W p l e { frames := 85, cells := 0, slots := 0, locals := 4914 } s m ([.ref (ad 0), .int a1, .int a2] : List Value).toArray below meth c H locs 0 0 (MQ below (QV D cy ad A (SM z) V') ([.ref (ad 0), .int a1, .int a2] : List Value).toArray s 0 0 A) (F0 m pc ls st) := ⟨_, rfl⟩
  have B247 : ∀ (V : Vt) (s0 : Int32), f_X9_goesAlong_247 N V s0 = some V' → G 247 V [(0, .ref (ad 0))] [.int s0, .ref (ad 0)] := by
    intro V s0 h
    rw [hG]
    intro H locs ls w hl
    rw [f_X9_goesAlong_247] at h
    obtain ⟨g60, h⟩ := cbi h
    refine m_put X w 0 sm_n0 sm_k0 ci9 45 (by decide) rfl rfl rfl (nb01 g60) (fb01 g60) fl_X9_439 dX9_goesAlong_247 (fun V61 H locs eV61 w => ?_)
    replace h := bdi h _ eV61
    refine lv_aload_n hx hb dX9_goesAlong_250 rfl (lv_at hl 0 rfl) ?_
    refine lv_dup hx hb dX9_goesAlong_251 rfl ?_
    refine m_get X w 0 sm_n0 sm_k0 ci9 22 (by decide) (fvI sm_k0 rfl) rfl fl_X9_258 dX9_goesAlong_252 ?_
    refine lv_iconst (v := 1) hx hb dX9_goesAlong_255 (by decide) ?_
    refine lv_iadd hx hb dX9_goesAlong_256 ?_
    refine m_put X w 0 sm_n0 sm_k0 ci9 22 (by decide) rfl rfl rfl rfl rfl fl_X9_258 dX9_goesAlong_257 (fun V62 H locs eV62 w => ?_)
    replace h := bdi h _ eV62
    obtain rfl := Option.some.inj h
    exact m_rv X w hr hlocks dX9_goesAlong_260
  have B246 : ∀ (V : Vt), f_X9_goesAlong_246 N V  = some V' → G 246 V [(0, .ref (ad 0))] [.ref (ad 0)] := by
    intro V  h
    rw [hG]
    intro H locs ls w hl
    rw [f_X9_goesAlong_246] at h
    refine lv_iconst (v := 0) hx hb dX9_goesAlong_246 (by decide) ?_
    have g := B247 V (0 : Int32) h
    rw [hG] at g
    exact g H locs ls w (lv_sub hl [0] rfl)
  have B224 : ∀ (V : Vt) (s0 : Int32), f_X9_goesAlong_224 N V s0 = some V' → G 224 V [(0, .ref (ad 0))] [.int s0, .ref (ad 0)] := by
    intro V s0 h
    rw [hG]
    intro H locs ls w hl
    rw [f_X9_goesAlong_224] at h
    obtain ⟨g57, h⟩ := cbi h
    refine m_put X w 0 sm_n0 sm_k0 ci9 45 (by decide) rfl rfl rfl (nb01 g57) (fb01 g57) fl_X9_439 dX9_goesAlong_224 (fun V58 H locs eV58 w => ?_)
    replace h := bdi h _ eV58
    refine lv_aload_n hx hb dX9_goesAlong_227 rfl (lv_at hl 0 rfl) ?_
    refine lv_aload_n hx hb dX9_goesAlong_228 rfl (lv_at hl 0 rfl) ?_
    refine m_get X w 0 sm_n0 sm_k0 ci9 45 (by decide) (fvI sm_k0 rfl) rfl fl_X9_439 dX9_goesAlong_229 ?_
    refine lv_if_eq (tgt := 246) hx hb dX9_goesAlong_232 (by decide) (fun c59 => ?_) (fun c59 => ?_)
    · replace h := ifT h c59
      have g := B246 V58  h
      rw [hG] at g
      exact g H locs ls w (lv_sub hl [0] rfl)
    · replace h := ifF h c59
      refine lv_aload_n hx hb dX9_goesAlong_235 rfl (lv_at hl 0 rfl) ?_
      refine m_get X w 0 sm_n0 sm_k0 ci9 24 (by decide) (fvI sm_k0 rfl) rfl fl_X9_268 dX9_goesAlong_236 ?_
      refine lv_if_ne (tgt := 246) hx hb dX9_goesAlong_239 (by decide) (fun c63 => ?_) (fun c63 => ?_)
      · replace h := ifF h c63
        have g := B246 V58  h
        rw [hG] at g
        exact g H locs ls w (lv_sub hl [0] rfl)
      · replace h := ifT h c63
        refine lv_iconst (v := 1) hx hb dX9_goesAlong_242 (by decide) ?_
        refine lv_goto (tgt := 247) hx hb dX9_goesAlong_243 (by decide) ?_
        have g := B247 V58 (1 : Int32) h
        rw [hG] at g
        exact g H locs ls w (lv_sub hl [0] rfl)
  have B219 : ∀ (V : Vt), f_X9_goesAlong_219 N V  = some V' → G 219 V [(0, .ref (ad 0))] [.ref (ad 0)] := by
    intro V  h
    rw [hG]
    intro H locs ls w hl
    rw [f_X9_goesAlong_219] at h
    refine lv_iconst (v := 1) hx hb dX9_goesAlong_219 (by decide) ?_
    refine lv_goto (tgt := 224) hx hb dX9_goesAlong_220 (by decide) ?_
    have g := B224 V (1 : Int32) h
    rw [hG] at g
    exact g H locs ls w (lv_sub hl [0] rfl)
  have B197 : ∀ (V : Vt) (v2 : Int32), f_X9_goesAlong_197 N V v2 = some V' → G 197 V [(0, .ref (ad 0)), (2, .int v2)] [] := by
    intro V v2 h
    rw [hG]
    intro H locs ls w hl
    rw [f_X9_goesAlong_197] at h
    refine lv_aload_n hx hb dX9_goesAlong_197 rfl (lv_at hl 0 rfl) ?_
    refine lv_iconst (v := 0) hx hb dX9_goesAlong_198 (by decide) ?_
    refine m_put X w 0 sm_n0 sm_k0 ci9 24 (by decide) rfl rfl rfl rfl rfl fl_X9_268 dX9_goesAlong_199 (fun V52 H locs eV52 w => ?_)
    replace h := bdi h _ eV52
    refine lv_aload_n hx hb dX9_goesAlong_202 rfl (lv_at hl 0 rfl) ?_
    refine lv_aload_n hx hb dX9_goesAlong_203 rfl (lv_at hl 0 rfl) ?_
    refine lv_iconst (v := 5) hx hb dX9_goesAlong_204 (by decide) ?_
    obtain ⟨r53, V55, q54, h⟩ := obi h
    refine m_ci (m_rV (As := [.int (5 : Int32)]) (rest := [.ref (ad 0)]) X w hl mi_X9_passes0 ml_X9_282 0 sm_n0 sm_k0 rfl (c_X9_passes0 l D cy ad A Kc C0 N z V52 (5 : Int32) r53 V55 q54) ⟨⟨rfl, rfl, Nat.le_of_ble_eq_true rfl, Nat.le_of_ble_eq_true rfl⟩, Nat.le_of_ble_eq_true rfl, Nat.le_of_ble_eq_true rfl⟩ rfl rfl (Nat.le_of_ble_eq_true rfl) dX9_goesAlong_205) w (fun H locs w => ?_)
    refine lv_if_eq (tgt := 219) hx hb dX9_goesAlong_208 (by decide) (fun c56 => ?_) (fun c56 => ?_)
    · replace h := ifT h c56
      have g := B219 V55  h
      rw [hG] at g
      exact g H locs ls w (lv_sub hl [0] rfl)
    · replace h := ifF h c56
      refine lv_aload_n hx hb dX9_goesAlong_211 rfl (lv_at hl 0 rfl) ?_
      refine lv_iload_n hx hb dX9_goesAlong_212 rfl (lv_at hl 1 rfl) ?_
      obtain ⟨r64, V66, q65, h⟩ := obi h
      refine m_ci (m_rV (As := [.int v2]) (rest := [.ref (ad 0)]) X w hl mi_X9_testOf ml_X9_309 0 sm_n0 sm_k0 rfl ((cg_X9_testOf l D cy ad A Kc C0 N z 40).1 V55 v2 r64 V66 q65) ⟨⟨rfl, rfl, Nat.le_of_ble_eq_true rfl, Nat.le_of_ble_eq_true rfl⟩, Nat.le_of_ble_eq_true rfl, Nat.le_of_ble_eq_true rfl⟩ rfl rfl (Nat.le_of_ble_eq_true rfl) dX9_goesAlong_213) w (fun H locs w => ?_)
      refine lv_if_eq (tgt := 223) hx hb dX9_goesAlong_216 (by decide) (fun c67 => ?_) (fun c67 => ?_)
      · replace h := ifT h c67
        refine lv_iconst (v := 0) hx hb dX9_goesAlong_223 (by decide) ?_
        have g := B224 V66 (0 : Int32) h
        rw [hG] at g
        exact g H locs ls w (lv_sub hl [0] rfl)
      · replace h := ifF h c67
        have g := B219 V66  h
        rw [hG] at g
        exact g H locs ls w (lv_sub hl [0] rfl)
  have L89 : ∀ (n89 : Nat) (V : Vt) (v2 : Int32) (v3 : Int32) (v4 : Int32), f_X9_goesAlong_89 N n89 V v2 v3 v4 = some V' → G 89 V [(0, .ref (ad 0)), (2, .int v2), (3, .int v3), (4, .int v4)] [] := by
    intro n89
    induction n89 with
    | zero => intro V v2 v3 v4 h; rw [f_X9_goesAlong_89] at h; cases h
    | succ n89 ih89 =>
      have B147 : ∀ (V : Vt) (v2 : Int32) (v3 : Int32) (v4 : Int32) (s0 : Int32), f_X9_goesAlong_147 N (f_X9_goesAlong_89 N n89) V v2 v3 v4 s0 = some V' → G 147 V [(0, .ref (ad 0)), (2, .int v2), (3, .int v3), (4, .int v4)] [.int s0, .ref (ad 0)] := by
        intro V v2 v3 v4 s0 h
        rw [hG]
        intro H locs ls w hl
        rw [f_X9_goesAlong_147] at h
        obtain ⟨g79, h⟩ := cbi h
        refine m_put X w 0 sm_n0 sm_k0 ci9 44 (by decide) rfl rfl rfl (nb01 g79) (fb01 g79) fl_X9_433 dX9_goesAlong_147 (fun V80 H locs eV80 w => ?_)
        replace h := bdi h _ eV80
        obtain ⟨x81, ex81⟩ : ∃ y : Int32, y = v4 + (1 : Int32) := ⟨_, rfl⟩
        replace h := bdi h _ ex81
        refine lv_iinc (v := x81) (lv' := [(4, .int x81), (0, .ref (ad 0)), (2, .int v2), (3, .int v3)]) hx hb dX9_goesAlong_150 hl (k := 3) rfl (by rw [ex81]; rfl) (by decide) rfl (fun ls hl => ?_)
        refine lv_goto (tgt := 89) hx hb dX9_goesAlong_153 (by decide) ?_
        have g := ih89 V80 v2 v3 x81 h
        rw [hG] at g
        exact g H locs ls w (lv_sub hl [1, 2, 3, 0] rfl)
      have B146 : ∀ (V : Vt) (v2 : Int32) (v3 : Int32) (v4 : Int32), f_X9_goesAlong_146 N (f_X9_goesAlong_89 N n89) V v2 v3 v4 = some V' → G 146 V [(0, .ref (ad 0)), (2, .int v2), (3, .int v3), (4, .int v4)] [.ref (ad 0)] := by
        intro V v2 v3 v4 h
        rw [hG]
        intro H locs ls w hl
        rw [f_X9_goesAlong_146] at h
        refine lv_iconst (v := 0) hx hb dX9_goesAlong_146 (by decide) ?_
        have g := B147 V v2 v3 v4 (0 : Int32) h
        rw [hG] at g
        exact g H locs ls w (lv_sub hl [0, 1, 2, 3] rfl)
      have B110 : ∀ (V : Vt) (v2 : Int32) (v3 : Int32) (v4 : Int32), f_X9_goesAlong_110 N (f_X9_goesAlong_89 N n89) V v2 v3 v4 = some V' → G 110 V [(0, .ref (ad 0)), (2, .int v2), (3, .int v3), (4, .int v4)] [] := by
        intro V v2 v3 v4 h
        rw [hG]
        intro H locs ls w hl
        rw [f_X9_goesAlong_110] at h
        refine lv_aload_n hx hb dX9_goesAlong_110 rfl (lv_at hl 0 rfl) ?_
        refine lv_iconst (v := 0) hx hb dX9_goesAlong_111 (by decide) ?_
        refine m_put X w 0 sm_n0 sm_k0 ci9 24 (by decide) rfl rfl rfl rfl rfl fl_X9_268 dX9_goesAlong_112 (fun V72 H locs eV72 w => ?_)
        replace h := bdi h _ eV72
        refine lv_aload_n hx hb dX9_goesAlong_115 rfl (lv_at hl 0 rfl) ?_
        refine m_get X w 0 sm_n0 sm_k0 ci9 46 (by decide) (fvR sm_k0 rfl sm_p46) rfl fl_X9_100 dX9_goesAlong_116 ?_
        refine lv_iload hx hb dX9_goesAlong_119 (lv_at hl 3 rfl) ?_
        refine lv_aload_n hx hb dX9_goesAlong_121 rfl (lv_at hl 0 rfl) ?_
        refine lv_iload_n hx hb dX9_goesAlong_122 rfl (lv_at hl 1 rfl) ?_
        obtain ⟨r73, V75, q74, h⟩ := obi h
        refine m_cl (m_rV (As := [.int v2]) (rest := [.int v4, .ref (ad 23)]) X w hl mi_X9_sumOf ml_X9_285 0 sm_n0 sm_k0 rfl ((cg_X9_sumOf l D cy ad A Kc C0 N z 40).1 V72 v2 r73 V75 q74) ⟨⟨rfl, rfl, Nat.le_of_ble_eq_true rfl, Nat.le_of_ble_eq_true rfl⟩, Nat.le_of_ble_eq_true rfl, Nat.le_of_ble_eq_true rfl⟩ rfl rfl (Nat.le_of_ble_eq_true rfl) dX9_goesAlong_123) w (fun H locs w => ?_)
        obtain ⟨g76, h⟩ := cki h
        refine m_last X w 23 sm_n23 sm_k23 sm_z23 g76 dX9_goesAlong_126 (fun V77 H locs eV77 w => ?_)
        replace h := bdi h _ eV77
        refine lv_aload_n hx hb dX9_goesAlong_127 rfl (lv_at hl 0 rfl) ?_
        refine lv_aload_n hx hb dX9_goesAlong_128 rfl (lv_at hl 0 rfl) ?_
        refine m_get X w 0 sm_n0 sm_k0 ci9 44 (by decide) (fvI sm_k0 rfl) rfl fl_X9_433 dX9_goesAlong_129 ?_
        refine lv_if_eq (tgt := 146) hx hb dX9_goesAlong_132 (by decide) (fun c78 => ?_) (fun c78 => ?_)
        · replace h := ifT h c78
          have g := B146 V77 v2 v3 v4 h
          rw [hG] at g
          exact g H locs ls w (lv_sub hl [0, 1, 2, 3] rfl)
        · replace h := ifF h c78
          refine lv_aload_n hx hb dX9_goesAlong_135 rfl (lv_at hl 0 rfl) ?_
          refine m_get X w 0 sm_n0 sm_k0 ci9 24 (by decide) (fvI sm_k0 rfl) rfl fl_X9_268 dX9_goesAlong_136 ?_
          refine lv_if_ne (tgt := 146) hx hb dX9_goesAlong_139 (by decide) (fun c82 => ?_) (fun c82 => ?_)
          · replace h := ifF h c82
            have g := B146 V77 v2 v3 v4 h
            rw [hG] at g
            exact g H locs ls w (lv_sub hl [0, 1, 2, 3] rfl)
          · replace h := ifT h c82
            refine lv_iconst (v := 1) hx hb dX9_goesAlong_142 (by decide) ?_
            refine lv_goto (tgt := 147) hx hb dX9_goesAlong_143 (by decide) ?_
            have g := B147 V77 v2 v3 v4 (1 : Int32) h
            rw [hG] at g
            exact g H locs ls w (lv_sub hl [0, 1, 2, 3] rfl)
      intro V v2 v3 v4 h
      rw [hG]
      intro H locs ls w hl
      rw [f_X9_goesAlong_89] at h
      refine lv_iload hx hb dX9_goesAlong_89 (lv_at hl 3 rfl) ?_
      refine lv_iload_n hx hb dX9_goesAlong_91 rfl (lv_at hl 2 rfl) ?_
      refine lv_icmp_ge (tgt := 156) hx hb dX9_goesAlong_92 (by decide) (fun c46 => ?_) (fun c46 => ?_)
      · replace h := ifT h c46
        refine lv_aload_n hx hb dX9_goesAlong_156 rfl (lv_at hl 0 rfl) ?_
        refine lv_iconst (v := 1) hx hb dX9_goesAlong_157 (by decide) ?_
        refine m_put X w 0 sm_n0 sm_k0 ci9 42 (by decide) rfl rfl rfl rfl rfl fl_X9_436 dX9_goesAlong_158 (fun V47 H locs eV47 w => ?_)
        replace h := bdi h _ eV47
        refine lv_aload_n hx hb dX9_goesAlong_161 rfl (lv_at hl 0 rfl) ?_
        refine lv_bipush (v := 29) hx hb dX9_goesAlong_162 (by decide) ?_
        obtain ⟨r48, V50, q49, h⟩ := obi h
        refine m_ci (m_rV (As := [.int (29 : Int32)]) (rest := []) X w hl mi_X9_passes0 ml_X9_282 0 sm_n0 sm_k0 rfl (c_X9_passes0 l D cy ad A Kc C0 N z V47 (29 : Int32) r48 V50 q49) ⟨⟨rfl, rfl, Nat.le_of_ble_eq_true rfl, Nat.le_of_ble_eq_true rfl⟩, Nat.le_of_ble_eq_true rfl, Nat.le_of_ble_eq_true rfl⟩ rfl rfl (Nat.le_of_ble_eq_true rfl) dX9_goesAlong_164) w (fun H locs w => ?_)
        refine lv_if_eq (tgt := 197) hx hb dX9_goesAlong_167 (by decide) (fun c51 => ?_) (fun c51 => ?_)
        · replace h := ifT h c51
          have g := B197 V50 v2 h
          rw [hG] at g
          exact g H locs ls w (lv_sub hl [0, 1] rfl)
        · replace h := ifF h c51
          refine lv_aload_n hx hb dX9_goesAlong_170 rfl (lv_at hl 0 rfl) ?_
          refine lv_aload_n hx hb dX9_goesAlong_171 rfl (lv_at hl 0 rfl) ?_
          refine m_get X w 0 sm_n0 sm_k0 ci9 2 (by decide) (fvR sm_k0 rfl sm_p2) rfl fl_X9_28 dX9_goesAlong_172 ?_
          refine lv_sipush (v := 2915) hx hb dX9_goesAlong_175 (by decide) ?_
          refine lv_aload_n hx hb dX9_goesAlong_178 rfl (lv_at hl 0 rfl) ?_
          refine m_get X w 0 sm_n0 sm_k0 ci9 22 (by decide) (fvI sm_k0 rfl) rfl fl_X9_258 dX9_goesAlong_179 ?_
          refine lv_iadd hx hb dX9_goesAlong_182 ?_
          obtain ⟨g68, h⟩ := cki h
          refine m_iald X w 2 sm_n2 sm_k2 sm_z2 g68 dX9_goesAlong_183 ?_
          refine m_put X w 0 sm_n0 sm_k0 ci9 42 (by decide) rfl rfl rfl rfl rfl fl_X9_436 dX9_goesAlong_184 (fun V69 H locs eV69 w => ?_)
          replace h := bdi h _ eV69
          refine lv_aload_n hx hb dX9_goesAlong_187 rfl (lv_at hl 0 rfl) ?_
          refine lv_dup hx hb dX9_goesAlong_188 rfl ?_
          refine m_get X w 0 sm_n0 sm_k0 ci9 22 (by decide) (fvI sm_k0 rfl) rfl fl_X9_258 dX9_goesAlong_189 ?_
          refine lv_iconst (v := 1) hx hb dX9_goesAlong_192 (by decide) ?_
          refine lv_iadd hx hb dX9_goesAlong_193 ?_
          refine m_put X w 0 sm_n0 sm_k0 ci9 22 (by decide) rfl rfl rfl rfl rfl fl_X9_258 dX9_goesAlong_194 (fun V70 H locs eV70 w => ?_)
          replace h := bdi h _ eV70
          have g := B197 V70 v2 h
          rw [hG] at g
          exact g H locs ls w (lv_sub hl [0, 1] rfl)
      · replace h := ifF h c46
        refine lv_iload hx hb dX9_goesAlong_95 (lv_at hl 3 rfl) ?_
        refine lv_if_le (tgt := 110) hx hb dX9_goesAlong_97 (by decide) (fun c71 => ?_) (fun c71 => ?_)
        · replace h := ifT h c71
          have g := B110 V v2 v3 v4 h
          rw [hG] at g
          exact g H locs ls w (lv_sub hl [0, 1, 2, 3] rfl)
        · replace h := ifF h c71
          refine lv_aload_n hx hb dX9_goesAlong_100 rfl (lv_at hl 0 rfl) ?_
          refine lv_dup hx hb dX9_goesAlong_101 rfl ?_
          refine m_get X w 0 sm_n0 sm_k0 ci9 22 (by decide) (fvI sm_k0 rfl) rfl fl_X9_258 dX9_goesAlong_102 ?_
          refine lv_iconst (v := 1) hx hb dX9_goesAlong_105 (by decide) ?_
          refine lv_iadd hx hb dX9_goesAlong_106 ?_
          refine m_put X w 0 sm_n0 sm_k0 ci9 22 (by decide) rfl rfl rfl rfl rfl fl_X9_258 dX9_goesAlong_107 (fun V83 H locs eV83 w => ?_)
          replace h := bdi h _ eV83
          have g := B110 V83 v2 v3 v4 h
          rw [hG] at g
          exact g H locs ls w (lv_sub hl [0, 1, 2, 3] rfl)
  have B85 : ∀ (V : Vt) (v2 : Int32) (s0 : Int32), f_X9_goesAlong_85 N V v2 s0 = some V' → G 85 V [(0, .ref (ad 0)), (2, .int v2)] [.int s0] := by
    intro V v2 s0 h
    rw [hG]
    intro H locs ls w hl
    rw [f_X9_goesAlong_85] at h
    refine lv_istore_n (lv' := [(3, .int s0), (0, .ref (ad 0)), (2, .int v2)]) hx hb dX9_goesAlong_85 rfl hl (by decide) rfl (fun ls hl => ?_)
    refine lv_iconst (v := 0) hx hb dX9_goesAlong_86 (by decide) ?_
    refine lv_istore (lv' := [(4, .int (0 : Int32)), (3, .int s0), (0, .ref (ad 0)), (2, .int v2)]) hx hb dX9_goesAlong_87 hl (by decide) rfl (fun ls hl => ?_)
    have g := L89 N V v2 s0 (0 : Int32) h
    rw [hG] at g
    exact g H locs ls w (lv_sub hl [2, 3, 1, 0] rfl)
  rw [f_X9_goesAlong] at h
  refine lv_aload_n hx hb dX9_goesAlong_0 rfl (lv_at hl 0 rfl) ?_
  refine lv_iconst (v := 1) hx hb dX9_goesAlong_1 (by decide) ?_
  refine m_put X w 0 sm_n0 sm_k0 ci9 25 (by decide) rfl rfl rfl rfl rfl fl_X9_288 dX9_goesAlong_2 (fun V35 H locs eV35 w => ?_)
  replace h := bdi h _ eV35
  refine lv_aload_n hx hb dX9_goesAlong_5 rfl (lv_at hl 0 rfl) ?_
  refine lv_iload_n hx hb dX9_goesAlong_6 rfl (lv_at hl 1 rfl) ?_
  refine m_put X w 0 sm_n0 sm_k0 ci9 23 (by decide) rfl rfl rfl rfl rfl fl_X9_255 dX9_goesAlong_7 (fun V36 H locs eV36 w => ?_)
  replace h := bdi h _ eV36
  refine lv_aload_n hx hb dX9_goesAlong_10 rfl (lv_at hl 0 rfl) ?_
  refine lv_aload_n hx hb dX9_goesAlong_11 rfl (lv_at hl 0 rfl) ?_
  refine m_get X w 0 sm_n0 sm_k0 ci9 41 (by decide) (fvI sm_k0 rfl) rfl fl_X9_421 dX9_goesAlong_12 ?_
  refine m_put X w 0 sm_n0 sm_k0 ci9 22 (by decide) rfl rfl rfl rfl rfl fl_X9_258 dX9_goesAlong_15 (fun V37 H locs eV37 w => ?_)
  replace h := bdi h _ eV37
  refine lv_aload_n hx hb dX9_goesAlong_18 rfl (lv_at hl 0 rfl) ?_
  refine lv_aload_n hx hb dX9_goesAlong_19 rfl (lv_at hl 0 rfl) ?_
  refine lv_aload_n hx hb dX9_goesAlong_20 rfl (lv_at hl 0 rfl) ?_
  refine m_get X w 0 sm_n0 sm_k0 ci9 22 (by decide) (fvI sm_k0 rfl) rfl fl_X9_258 dX9_goesAlong_21 ?_
  obtain ⟨r38, q39, h⟩ := ob1i h
  refine m_ci (m_rV (As := [.int (V37.1 0 22)]) (rest := [.ref (ad 0)]) X w hl mi_X9_codeAt ml_X9_261 0 sm_n0 sm_k0 rfl (c_X9_codeAt l D cy ad A Kc C0 N z V37 (V37.1 0 22) r38 q39) ⟨⟨rfl, rfl, Nat.le_of_ble_eq_true rfl, Nat.le_of_ble_eq_true rfl⟩, Nat.le_of_ble_eq_true rfl, Nat.le_of_ble_eq_true rfl⟩ rfl rfl (Nat.le_of_ble_eq_true rfl) dX9_goesAlong_24) w (fun H locs w => ?_)
  refine m_put X w 0 sm_n0 sm_k0 ci9 43 (by decide) rfl rfl rfl rfl rfl fl_X9_430 dX9_goesAlong_27 (fun V40 H locs eV40 w => ?_)
  replace h := bdi h _ eV40
  refine lv_aload_n hx hb dX9_goesAlong_30 rfl (lv_at hl 0 rfl) ?_
  refine lv_dup hx hb dX9_goesAlong_31 rfl ?_
  refine m_get X w 0 sm_n0 sm_k0 ci9 22 (by decide) (fvI sm_k0 rfl) rfl fl_X9_258 dX9_goesAlong_32 ?_
  refine lv_iconst (v := 1) hx hb dX9_goesAlong_35 (by decide) ?_
  refine lv_iadd hx hb dX9_goesAlong_36 ?_
  refine m_put X w 0 sm_n0 sm_k0 ci9 22 (by decide) rfl rfl rfl rfl rfl fl_X9_258 dX9_goesAlong_37 (fun V41 H locs eV41 w => ?_)
  replace h := bdi h _ eV41
  refine lv_aload_n hx hb dX9_goesAlong_40 rfl (lv_at hl 0 rfl) ?_
  refine lv_iconst (v := 1) hx hb dX9_goesAlong_41 (by decide) ?_
  refine m_put X w 0 sm_n0 sm_k0 ci9 44 (by decide) rfl rfl rfl rfl rfl fl_X9_433 dX9_goesAlong_42 (fun V42 H locs eV42 w => ?_)
  replace h := bdi h _ eV42
  refine lv_aload_n hx hb dX9_goesAlong_45 rfl (lv_at hl 0 rfl) ?_
  refine m_get X w 0 sm_n0 sm_k0 ci9 43 (by decide) (fvI sm_k0 rfl) rfl fl_X9_430 dX9_goesAlong_46 ?_
  refine lv_bipush (v := 28) hx hb dX9_goesAlong_49 (by decide) ?_
  refine lv_icmp_ne (tgt := 58) hx hb dX9_goesAlong_51 (by decide) (fun c43 => ?_) (fun c43 => ?_)
  · replace h := ifF h c43
    refine lv_aload_n hx hb dX9_goesAlong_58 rfl (lv_at hl 0 rfl) ?_
    refine m_get X w 0 sm_n0 sm_k0 ci9 43 (by decide) (fvI sm_k0 rfl) rfl fl_X9_430 dX9_goesAlong_59 ?_
    refine lv_bipush (v := 27) hx hb dX9_goesAlong_62 (by decide) ?_
    refine lv_icmp_ne (tgt := 71) hx hb dX9_goesAlong_64 (by decide) (fun c44 => ?_) (fun c44 => ?_)
    · replace h := ifF h c44
      refine lv_aload_n hx hb dX9_goesAlong_71 rfl (lv_at hl 0 rfl) ?_
      refine m_get X w 0 sm_n0 sm_k0 ci9 43 (by decide) (fvI sm_k0 rfl) rfl fl_X9_430 dX9_goesAlong_72 ?_
      refine lv_bipush (v := 22) hx hb dX9_goesAlong_75 (by decide) ?_
      refine lv_icmp_ne (tgt := 84) hx hb dX9_goesAlong_77 (by decide) (fun c45 => ?_) (fun c45 => ?_)
      · replace h := ifF h c45
        refine lv_iconst (v := 3) hx hb dX9_goesAlong_84 (by decide) ?_
        have g := B85 V42 a2 (3 : Int32) h
        rw [hG] at g
        exact g H locs ls w (lv_sub hl [0, 2] rfl)
      · replace h := ifT h c45
        refine lv_iconst (v := 2) hx hb dX9_goesAlong_80 (by decide) ?_
        refine lv_goto (tgt := 85) hx hb dX9_goesAlong_81 (by decide) ?_
        have g := B85 V42 a2 (2 : Int32) h
        rw [hG] at g
        exact g H locs ls w (lv_sub hl [0, 2] rfl)
    · replace h := ifT h c44
      refine lv_iconst (v := 1) hx hb dX9_goesAlong_67 (by decide) ?_
      refine lv_goto (tgt := 85) hx hb dX9_goesAlong_68 (by decide) ?_
      have g := B85 V42 a2 (1 : Int32) h
      rw [hG] at g
      exact g H locs ls w (lv_sub hl [0, 2] rfl)
  · replace h := ifT h c43
    refine lv_iconst (v := 0) hx hb dX9_goesAlong_54 (by decide) ?_
    refine lv_goto (tgt := 85) hx hb dX9_goesAlong_55 (by decide) ?_
    have g := B85 V42 a2 (0 : Int32) h
    rw [hG] at g
    exact g H locs ls w (lv_sub hl [0, 2] rfl)
def f_X9_readOne (N : Nat) (V : Vt) : Option Vt := if (V.1 0 10) = 0 then obv (f_X9_readClause N V) (fun V10 => some V10) else obv (f_X9_readOrder N V) (fun V13 => some V13)
set_option maxHeartbeats 4000000 in
set_option maxRecDepth 100000 in
theorem c_X9_readOne (l : Launch) (D : va_G) (cy : Nat → ClassId) (ad : Nat → Nat) (A : Nat → Prop) (Kc : State → Prop) (C0 : Cx ad A Kc) (N : Nat) (z : Nat) (V : Vt) (V' : Vt) (h : f_X9_readOne N V = some V') : Met l yX9_readOne (mw yX9_readOne cX9_readOne 1 none) { frames := 86, cells := 0, slots := 0, locals := 4925 } (PreM D cy ad Kc (SM z) V [.ref (ad 0)]) (QV D cy ad A (SM z) V') 0 0 A := by
  refine ct_go C0 (own := RX9) rfl (by decide) rfl ?_
  intro p e s m below meth c ls H locs X hr hlocks hnm hl w
  have hx := X.1.1
  have hb := X.1.2.1
  have hown := X.2.1
  have hts := X.2.2.1
  have hl : lv_has ls 1 [(0, .ref (ad 0))] := hl
  rw [f_X9_readOne] at h
  refine lv_aload_n hx hb dX9_readOne_0 rfl (lv_at hl 0 rfl) ?_
  refine m_get X w 0 sm_n0 sm_k0 ci9 10 (by decide) (fvI sm_k0 rfl) rfl fl_X9_204 dX9_readOne_1 ?_
  refine lv_if_eq (tgt := 14) hx hb dX9_readOne_4 (by decide) (fun c7 => ?_) (fun c7 => ?_)
  · replace h := ifT h c7
    refine lv_aload_n hx hb dX9_readOne_14 rfl (lv_at hl 0 rfl) ?_
    obtain ⟨V10, q9, h⟩ := obvi h
    refine m_cv (m_rV (As := []) (rest := []) X w hl mi_X9_readClause ml_X9_211 0 sm_n0 sm_k0 rfl (c_X9_readClause l D cy ad A Kc C0 N z V  V10 q9) ⟨⟨rfl, rfl, Nat.le_of_ble_eq_true rfl, Nat.le_of_ble_eq_true rfl⟩, Nat.le_of_ble_eq_true rfl, Nat.le_of_ble_eq_true rfl⟩ rfl rfl (Nat.le_of_ble_eq_true rfl) dX9_readOne_15) w (fun H locs w => ?_)
    obtain rfl := Option.some.inj h
    exact m_rv X w hr hlocks dX9_readOne_18
  · replace h := ifF h c7
    refine lv_aload_n hx hb dX9_readOne_7 rfl (lv_at hl 0 rfl) ?_
    obtain ⟨V13, q12, h⟩ := obvi h
    refine m_cv (m_rV (As := []) (rest := []) X w hl mi_X9_readOrder ml_X9_208 0 sm_n0 sm_k0 rfl (c_X9_readOrder l D cy ad A Kc C0 N z V  V13 q12) ⟨⟨rfl, rfl, Nat.le_of_ble_eq_true rfl, Nat.le_of_ble_eq_true rfl⟩, Nat.le_of_ble_eq_true rfl, Nat.le_of_ble_eq_true rfl⟩ rfl rfl (Nat.le_of_ble_eq_true rfl) dX9_readOne_8) w (fun H locs w => ?_)
    refine lv_goto (tgt := 18) hx hb dX9_readOne_11 (by decide) ?_
    obtain rfl := Option.some.inj h
    exact m_rv X w hr hlocks dX9_readOne_18
def f_X9_ledFrom (N : Nat) (V : Vt) (a1 : Int32) : Option (Int32 × Vt) := ob (f_X9_tells N V (1 : Int32) (-1 : Int32) a1 (4 : Int32) (2 : Int32)) (fun r4 V6 => some (r4, V6))
set_option maxHeartbeats 4000000 in
set_option maxRecDepth 100000 in
theorem c_X9_ledFrom (l : Launch) (D : va_G) (cy : Nat → ClassId) (ad : Nat → Nat) (A : Nat → Prop) (Kc : State → Prop) (C0 : Cx ad A Kc) (N : Nat) (z : Nat) (V : Vt) (a1 : Int32) (r : Int32) (V' : Vt) (h : f_X9_ledFrom N V a1 = some (r, V')) : Met l yX9_ledFrom (mw yX9_ledFrom cX9_ledFrom 2 (some .int)) { frames := 86, cells := 0, slots := 0, locals := 4946 } (PreM D cy ad Kc (SM z) V [.ref (ad 0), .int a1]) (QI D cy ad A r (SM z) V') 0 0 A := by
  refine ct_go C0 (own := RX9) rfl (by decide) rfl ?_
  intro p e s m below meth c ls H locs X hr hlocks hnm hl w
  have hx := X.1.1
  have hb := X.1.2.1
  have hown := X.2.1
  have hts := X.2.2.1
  have hl : lv_has ls 2 [(0, .ref (ad 0)), (1, .int a1)] := hl
  rw [f_X9_ledFrom] at h
  refine lv_aload_n hx hb dX9_ledFrom_0 rfl (lv_at hl 0 rfl) ?_
  refine lv_iconst (v := 1) hx hb dX9_ledFrom_1 (by decide) ?_
  refine lv_iconst (v := (-1)) hx hb dX9_ledFrom_2 (by decide) ?_
  refine lv_iload_n hx hb dX9_ledFrom_3 rfl (lv_at hl 1 rfl) ?_
  refine lv_iconst (v := 4) hx hb dX9_ledFrom_4 (by decide) ?_
  refine lv_iconst (v := 2) hx hb dX9_ledFrom_5 (by decide) ?_
  obtain ⟨r4, V6, q5, h⟩ := obi h
  refine m_ci (m_rV (As := [.int (1 : Int32), .int (-1 : Int32), .int a1, .int (4 : Int32), .int (2 : Int32)]) (rest := []) X w hl mi_X9_tells ml_X9_315 0 sm_n0 sm_k0 rfl (c_X9_tells l D cy ad A Kc C0 N z V (1 : Int32) (-1 : Int32) a1 (4 : Int32) (2 : Int32) r4 V6 q5) ⟨⟨rfl, rfl, Nat.le_of_ble_eq_true rfl, Nat.le_of_ble_eq_true rfl⟩, Nat.le_of_ble_eq_true rfl, Nat.le_of_ble_eq_true rfl⟩ rfl rfl (Nat.le_of_ble_eq_true rfl) dX9_ledFrom_6) w (fun H locs w => ?_)
  obtain ⟨rfl, rfl⟩ := reti h
  exact m_ri X w hr hlocks dX9_ledFrom_9
def f_X9_bites (N : Nat) (V : Vt) (a1 : Int32) : Option (Int32 × Vt) := ob (f_X9_tells N V (3 : Int32) (-1 : Int32) a1 (1 : Int32) (0 : Int32)) (fun r4 V6 => if r4 = (1 : Int32) then some ((1 : Int32), V6) else some ((0 : Int32), V6))
set_option maxHeartbeats 4000000 in
set_option maxRecDepth 100000 in
theorem c_X9_bites (l : Launch) (D : va_G) (cy : Nat → ClassId) (ad : Nat → Nat) (A : Nat → Prop) (Kc : State → Prop) (C0 : Cx ad A Kc) (N : Nat) (z : Nat) (V : Vt) (a1 : Int32) (r : Int32) (V' : Vt) (h : f_X9_bites N V a1 = some (r, V')) : Met l yX9_bites (mw yX9_bites cX9_bites 2 (some .boolean)) { frames := 86, cells := 0, slots := 0, locals := 4946 } (PreM D cy ad Kc (SM z) V [.ref (ad 0), .int a1]) (QI D cy ad A r (SM z) V') 0 0 A := by
  refine ct_go C0 (own := RX9) rfl (by decide) rfl ?_
  intro p e s m below meth c ls H locs X hr hlocks hnm hl w
  have hx := X.1.1
  have hb := X.1.2.1
  have hown := X.2.1
  have hts := X.2.2.1
  have hl : lv_has ls 2 [(0, .ref (ad 0)), (1, .int a1)] := hl
  rw [f_X9_bites] at h
  refine lv_aload_n hx hb dX9_bites_0 rfl (lv_at hl 0 rfl) ?_
  refine lv_iconst (v := 3) hx hb dX9_bites_1 (by decide) ?_
  refine lv_iconst (v := (-1)) hx hb dX9_bites_2 (by decide) ?_
  refine lv_iload_n hx hb dX9_bites_3 rfl (lv_at hl 1 rfl) ?_
  refine lv_iconst (v := 1) hx hb dX9_bites_4 (by decide) ?_
  refine lv_iconst (v := 0) hx hb dX9_bites_5 (by decide) ?_
  obtain ⟨r4, V6, q5, h⟩ := obi h
  refine m_ci (m_rV (As := [.int (3 : Int32), .int (-1 : Int32), .int a1, .int (1 : Int32), .int (0 : Int32)]) (rest := []) X w hl mi_X9_tells ml_X9_315 0 sm_n0 sm_k0 rfl (c_X9_tells l D cy ad A Kc C0 N z V (3 : Int32) (-1 : Int32) a1 (1 : Int32) (0 : Int32) r4 V6 q5) ⟨⟨rfl, rfl, Nat.le_of_ble_eq_true rfl, Nat.le_of_ble_eq_true rfl⟩, Nat.le_of_ble_eq_true rfl, Nat.le_of_ble_eq_true rfl⟩ rfl rfl (Nat.le_of_ble_eq_true rfl) dX9_bites_6) w (fun H locs w => ?_)
  refine lv_iconst (v := 1) hx hb dX9_bites_9 (by decide) ?_
  refine lv_icmp_ne (tgt := 17) hx hb dX9_bites_10 (by decide) (fun c7 => ?_) (fun c7 => ?_)
  · replace h := ifF h c7
    refine lv_iconst (v := 0) hx hb dX9_bites_17 (by decide) ?_
    obtain ⟨rfl, rfl⟩ := reti h
    exact m_rz X w hr rfl hlocks dX9_bites_18
  · replace h := ifT h c7
    refine lv_iconst (v := 1) hx hb dX9_bites_13 (by decide) ?_
    refine lv_goto (tgt := 18) hx hb dX9_bites_14 (by decide) ?_
    obtain ⟨rfl, rfl⟩ := reti h
    exact m_rz X w hr rfl hlocks dX9_bites_18
def f_X9_takesMost (N : Nat) (V : Vt) (a1 : Int32) (a2 : Int32) : Option (Int32 × Vt) := ob (f_X9_tells N V (2 : Int32) a1 a2 (99 : Int32) (10 : Int32)) (fun r4 V6 => some (r4, V6))
set_option maxHeartbeats 4000000 in
set_option maxRecDepth 100000 in
theorem c_X9_takesMost (l : Launch) (D : va_G) (cy : Nat → ClassId) (ad : Nat → Nat) (A : Nat → Prop) (Kc : State → Prop) (C0 : Cx ad A Kc) (N : Nat) (z : Nat) (V : Vt) (a1 : Int32) (a2 : Int32) (r : Int32) (V' : Vt) (h : f_X9_takesMost N V a1 a2 = some (r, V')) : Met l yX9_takesMost (mw yX9_takesMost cX9_takesMost 3 (some .int)) { frames := 86, cells := 0, slots := 0, locals := 4946 } (PreM D cy ad Kc (SM z) V [.ref (ad 0), .int a1, .int a2]) (QI D cy ad A r (SM z) V') 0 0 A := by
  refine ct_go C0 (own := RX9) rfl (by decide) rfl ?_
  intro p e s m below meth c ls H locs X hr hlocks hnm hl w
  have hx := X.1.1
  have hb := X.1.2.1
  have hown := X.2.1
  have hts := X.2.2.1
  have hl : lv_has ls 3 [(0, .ref (ad 0)), (1, .int a1), (2, .int a2)] := hl
  rw [f_X9_takesMost] at h
  refine lv_aload_n hx hb dX9_takesMost_0 rfl (lv_at hl 0 rfl) ?_
  refine lv_iconst (v := 2) hx hb dX9_takesMost_1 (by decide) ?_
  refine lv_iload_n hx hb dX9_takesMost_2 rfl (lv_at hl 1 rfl) ?_
  refine lv_iload_n hx hb dX9_takesMost_3 rfl (lv_at hl 2 rfl) ?_
  refine lv_bipush (v := 99) hx hb dX9_takesMost_4 (by decide) ?_
  refine lv_bipush (v := 10) hx hb dX9_takesMost_6 (by decide) ?_
  obtain ⟨r4, V6, q5, h⟩ := obi h
  refine m_ci (m_rV (As := [.int (2 : Int32), .int a1, .int a2, .int (99 : Int32), .int (10 : Int32)]) (rest := []) X w hl mi_X9_tells ml_X9_315 0 sm_n0 sm_k0 rfl (c_X9_tells l D cy ad A Kc C0 N z V (2 : Int32) a1 a2 (99 : Int32) (10 : Int32) r4 V6 q5) ⟨⟨rfl, rfl, Nat.le_of_ble_eq_true rfl, Nat.le_of_ble_eq_true rfl⟩, Nat.le_of_ble_eq_true rfl, Nat.le_of_ble_eq_true rfl⟩ rfl rfl (Nat.le_of_ble_eq_true rfl) dX9_takesMost_8) w (fun H locs w => ?_)
  obtain ⟨rfl, rfl⟩ := reti h
  exact m_ri X w hr hlocks dX9_takesMost_11
def f_X9_isBarred (N : Nat) (V : Vt) (a1 : Int32) (a2 : Int32) : Option (Int32 × Vt) := ob (f_X9_tells N V (4 : Int32) a1 a2 (1 : Int32) (0 : Int32)) (fun r4 V6 => if r4 = (1 : Int32) then some ((1 : Int32), V6) else some ((0 : Int32), V6))
set_option maxHeartbeats 4000000 in
set_option maxRecDepth 100000 in
theorem c_X9_isBarred (l : Launch) (D : va_G) (cy : Nat → ClassId) (ad : Nat → Nat) (A : Nat → Prop) (Kc : State → Prop) (C0 : Cx ad A Kc) (N : Nat) (z : Nat) (V : Vt) (a1 : Int32) (a2 : Int32) (r : Int32) (V' : Vt) (h : f_X9_isBarred N V a1 a2 = some (r, V')) : Met l yX9_isBarred (mw yX9_isBarred cX9_isBarred 3 (some .boolean)) { frames := 86, cells := 0, slots := 0, locals := 4946 } (PreM D cy ad Kc (SM z) V [.ref (ad 0), .int a1, .int a2]) (QI D cy ad A r (SM z) V') 0 0 A := by
  refine ct_go C0 (own := RX9) rfl (by decide) rfl ?_
  intro p e s m below meth c ls H locs X hr hlocks hnm hl w
  have hx := X.1.1
  have hb := X.1.2.1
  have hown := X.2.1
  have hts := X.2.2.1
  have hl : lv_has ls 3 [(0, .ref (ad 0)), (1, .int a1), (2, .int a2)] := hl
  rw [f_X9_isBarred] at h
  refine lv_aload_n hx hb dX9_isBarred_0 rfl (lv_at hl 0 rfl) ?_
  refine lv_iconst (v := 4) hx hb dX9_isBarred_1 (by decide) ?_
  refine lv_iload_n hx hb dX9_isBarred_2 rfl (lv_at hl 1 rfl) ?_
  refine lv_iload_n hx hb dX9_isBarred_3 rfl (lv_at hl 2 rfl) ?_
  refine lv_iconst (v := 1) hx hb dX9_isBarred_4 (by decide) ?_
  refine lv_iconst (v := 0) hx hb dX9_isBarred_5 (by decide) ?_
  obtain ⟨r4, V6, q5, h⟩ := obi h
  refine m_ci (m_rV (As := [.int (4 : Int32), .int a1, .int a2, .int (1 : Int32), .int (0 : Int32)]) (rest := []) X w hl mi_X9_tells ml_X9_315 0 sm_n0 sm_k0 rfl (c_X9_tells l D cy ad A Kc C0 N z V (4 : Int32) a1 a2 (1 : Int32) (0 : Int32) r4 V6 q5) ⟨⟨rfl, rfl, Nat.le_of_ble_eq_true rfl, Nat.le_of_ble_eq_true rfl⟩, Nat.le_of_ble_eq_true rfl, Nat.le_of_ble_eq_true rfl⟩ rfl rfl (Nat.le_of_ble_eq_true rfl) dX9_isBarred_6) w (fun H locs w => ?_)
  refine lv_iconst (v := 1) hx hb dX9_isBarred_9 (by decide) ?_
  refine lv_icmp_ne (tgt := 17) hx hb dX9_isBarred_10 (by decide) (fun c7 => ?_) (fun c7 => ?_)
  · replace h := ifF h c7
    refine lv_iconst (v := 0) hx hb dX9_isBarred_17 (by decide) ?_
    obtain ⟨rfl, rfl⟩ := reti h
    exact m_rz X w hr rfl hlocks dX9_isBarred_18
  · replace h := ifT h c7
    refine lv_iconst (v := 1) hx hb dX9_isBarred_13 (by decide) ?_
    refine lv_goto (tgt := 18) hx hb dX9_isBarred_14 (by decide) ?_
    obtain ⟨rfl, rfl⟩ := reti h
    exact m_rz X w hr rfl hlocks dX9_isBarred_18
def f_X9_at (N : Nat) (V : Vt) (a1 : Int32) (a2 : Int32) : Option (Int32 × Vt) := ob1 (f_X9_isCell N a1) (fun r13 => if r13 = 0 then some ((-1 : Int32), V) else if a2 = (0 : Int32) then ck ((0 : Int32) + a1) 5715 (some (V.2.1 2 ((0 : Int32) + a1).toNatClampNeg, V)) else if a2 = (1 : Int32) then ck (30 : Int32) 5715 (ob1 (f_X9_isIn N (V.2.1 2 (30 : Int32).toNatClampNeg) a1) (fun r20 => if r20 = 0 then some ((0 : Int32), V) else some ((1 : Int32), V))) else if a2 = (2 : Int32) then ob (f_X9_ledFrom N V a1) (fun r24 V26 => some (r24, V26)) else if a2 = (3 : Int32) then ob (f_X9_bites N V a1) (fun r28 V30 => if r28 = 0 then some ((0 : Int32), V30) else some ((1 : Int32), V30)) else some ((-1 : Int32), V))
set_option maxHeartbeats 4000000 in
set_option maxRecDepth 100000 in
theorem c_X9_at (l : Launch) (D : va_G) (cy : Nat → ClassId) (ad : Nat → Nat) (A : Nat → Prop) (Kc : State → Prop) (C0 : Cx ad A Kc) (N : Nat) (z : Nat) (V : Vt) (a1 : Int32) (a2 : Int32) (r : Int32) (V' : Vt) (h : f_X9_at N V a1 a2 = some (r, V')) : Met l yX9_at (mw yX9_at cX9_at 3 (some .int)) { frames := 87, cells := 0, slots := 0, locals := 4967 } (PreM D cy ad Kc (SM z) V [.ref (ad 0), .int a1, .int a2]) (QI D cy ad A r (SM z) V') 0 0 A := by
  refine ct_go C0 (own := RX9) rfl (by decide) rfl ?_
  intro p e s m below meth c ls H locs X hr hlocks hnm hl w
  have hx := X.1.1
  have hb := X.1.2.1
  have hown := X.2.1
  have hts := X.2.2.1
  have hl : lv_has ls 3 [(0, .ref (ad 0)), (1, .int a1), (2, .int a2)] := hl
  rw [f_X9_at] at h
  refine lv_iload_n hx hb dX9_at_0 rfl (lv_at hl 1 rfl) ?_
  obtain ⟨r13, q14, h⟩ := ob1i h
  refine m_ci (m_rS (As := [.int a1]) (rest := []) X w hl mi_X9_isCell ml_X9_115 (c_X9_isCell l D cy ad A Kc C0 N z V a1 r13 q14) ⟨⟨rfl, rfl, Nat.le_of_ble_eq_true rfl, Nat.le_of_ble_eq_true rfl⟩, Nat.le_of_ble_eq_true rfl, Nat.le_of_ble_eq_true rfl⟩ rfl rfl (Nat.le_of_ble_eq_true rfl) dX9_at_1) w (fun H locs w => ?_)
  refine lv_if_ne (tgt := 9) hx hb dX9_at_4 (by decide) (fun c15 => ?_) (fun c15 => ?_)
  · replace h := ifF h c15
    refine lv_iload_n hx hb dX9_at_9 rfl (lv_at hl 2 rfl) ?_
    rcases Decidable.em (a2 = (0 : Int32)) with c16 | c16
    · replace h := ifT h c16
      refine lv_tableIn (tgt := 40) hx hb dX9_at_10 (by rw [c16]; decide) (by rw [c16]; decide) (by rw [c16]; rfl) (by decide) ?_
      refine lv_aload_n hx hb dX9_at_40 rfl (lv_at hl 0 rfl) ?_
      refine m_get X w 0 sm_n0 sm_k0 ci9 2 (by decide) (fvR sm_k0 rfl sm_p2) rfl fl_X9_28 dX9_at_41 ?_
      refine lv_iconst (v := 0) hx hb dX9_at_44 (by decide) ?_
      refine lv_iload_n hx hb dX9_at_45 rfl (lv_at hl 1 rfl) ?_
      refine lv_iadd hx hb dX9_at_46 ?_
      obtain ⟨g17, h⟩ := cki h
      refine m_iald X w 2 sm_n2 sm_k2 sm_z2 g17 dX9_at_47 ?_
      obtain ⟨rfl, rfl⟩ := reti h
      exact m_ri X w hr hlocks dX9_at_48
    · replace h := ifF h c16
      rcases Decidable.em (a2 = (1 : Int32)) with c18 | c18
      · replace h := ifT h c18
        refine lv_tableIn (tgt := 49) hx hb dX9_at_10 (by rw [c18]; decide) (by rw [c18]; decide) (by rw [c18]; rfl) (by decide) ?_
        refine lv_aload_n hx hb dX9_at_49 rfl (lv_at hl 0 rfl) ?_
        refine m_get X w 0 sm_n0 sm_k0 ci9 2 (by decide) (fvR sm_k0 rfl sm_p2) rfl fl_X9_28 dX9_at_50 ?_
        refine lv_bipush (v := 30) hx hb dX9_at_53 (by decide) ?_
        obtain ⟨g19, h⟩ := cki h
        refine m_iald X w 2 sm_n2 sm_k2 sm_z2 g19 dX9_at_55 ?_
        refine lv_iload_n hx hb dX9_at_56 rfl (lv_at hl 1 rfl) ?_
        obtain ⟨r20, q21, h⟩ := ob1i h
        refine m_ci (m_rS (As := [.int (V.2.1 2 (30 : Int32).toNatClampNeg), .int a1]) (rest := []) X w hl mi_X9_isIn ml_X9_119 (c_X9_isIn l D cy ad A Kc C0 N z V (V.2.1 2 (30 : Int32).toNatClampNeg) a1 r20 q21) ⟨⟨rfl, rfl, Nat.le_of_ble_eq_true rfl, Nat.le_of_ble_eq_true rfl⟩, Nat.le_of_ble_eq_true rfl, Nat.le_of_ble_eq_true rfl⟩ rfl rfl (Nat.le_of_ble_eq_true rfl) dX9_at_57) w (fun H locs w => ?_)
        refine lv_if_eq (tgt := 67) hx hb dX9_at_60 (by decide) (fun c22 => ?_) (fun c22 => ?_)
        · replace h := ifT h c22
          refine lv_iconst (v := 0) hx hb dX9_at_67 (by decide) ?_
          obtain ⟨rfl, rfl⟩ := reti h
          exact m_ri X w hr hlocks dX9_at_68
        · replace h := ifF h c22
          refine lv_iconst (v := 1) hx hb dX9_at_63 (by decide) ?_
          refine lv_goto (tgt := 68) hx hb dX9_at_64 (by decide) ?_
          obtain ⟨rfl, rfl⟩ := reti h
          exact m_ri X w hr hlocks dX9_at_68
      · replace h := ifF h c18
        rcases Decidable.em (a2 = (2 : Int32)) with c23 | c23
        · replace h := ifT h c23
          refine lv_tableIn (tgt := 69) hx hb dX9_at_10 (by rw [c23]; decide) (by rw [c23]; decide) (by rw [c23]; rfl) (by decide) ?_
          refine lv_aload_n hx hb dX9_at_69 rfl (lv_at hl 0 rfl) ?_
          refine lv_iload_n hx hb dX9_at_70 rfl (lv_at hl 1 rfl) ?_
          obtain ⟨r24, V26, q25, h⟩ := obi h
          refine m_ci (m_rV (As := [.int a1]) (rest := []) X w hl mi_X9_ledFrom ml_X9_123 0 sm_n0 sm_k0 rfl (c_X9_ledFrom l D cy ad A Kc C0 N z V a1 r24 V26 q25) ⟨⟨rfl, rfl, Nat.le_of_ble_eq_true rfl, Nat.le_of_ble_eq_true rfl⟩, Nat.le_of_ble_eq_true rfl, Nat.le_of_ble_eq_true rfl⟩ rfl rfl (Nat.le_of_ble_eq_true rfl) dX9_at_71) w (fun H locs w => ?_)
          obtain ⟨rfl, rfl⟩ := reti h
          exact m_ri X w hr hlocks dX9_at_74
        · replace h := ifF h c23
          rcases Decidable.em (a2 = (3 : Int32)) with c27 | c27
          · replace h := ifT h c27
            refine lv_tableIn (tgt := 75) hx hb dX9_at_10 (by rw [c27]; decide) (by rw [c27]; decide) (by rw [c27]; rfl) (by decide) ?_
            refine lv_aload_n hx hb dX9_at_75 rfl (lv_at hl 0 rfl) ?_
            refine lv_iload_n hx hb dX9_at_76 rfl (lv_at hl 1 rfl) ?_
            obtain ⟨r28, V30, q29, h⟩ := obi h
            refine m_ci (m_rV (As := [.int a1]) (rest := []) X w hl mi_X9_bites ml_X9_126 0 sm_n0 sm_k0 rfl (c_X9_bites l D cy ad A Kc C0 N z V a1 r28 V30 q29) ⟨⟨rfl, rfl, Nat.le_of_ble_eq_true rfl, Nat.le_of_ble_eq_true rfl⟩, Nat.le_of_ble_eq_true rfl, Nat.le_of_ble_eq_true rfl⟩ rfl rfl (Nat.le_of_ble_eq_true rfl) dX9_at_77) w (fun H locs w => ?_)
            refine lv_if_eq (tgt := 87) hx hb dX9_at_80 (by decide) (fun c31 => ?_) (fun c31 => ?_)
            · replace h := ifT h c31
              refine lv_iconst (v := 0) hx hb dX9_at_87 (by decide) ?_
              obtain ⟨rfl, rfl⟩ := reti h
              exact m_ri X w hr hlocks dX9_at_88
            · replace h := ifF h c31
              refine lv_iconst (v := 1) hx hb dX9_at_83 (by decide) ?_
              refine lv_goto (tgt := 88) hx hb dX9_at_84 (by decide) ?_
              obtain ⟨rfl, rfl⟩ := reti h
              exact m_ri X w hr hlocks dX9_at_88
          · replace h := ifF h c27
            refine lv_tableOut (tgt := 89) hx hb dX9_at_10 (sw_out [(0 : Int32), (1 : Int32), (2 : Int32), (3 : Int32)] (by decide) (by intro q hq; simp only [List.mem_cons, List.not_mem_nil, or_false] at hq; rcases hq with rfl | rfl | rfl | rfl <;> assumption)) (by decide) ?_
            refine lv_iconst (v := (-1)) hx hb dX9_at_89 (by decide) ?_
            obtain ⟨rfl, rfl⟩ := reti h
            exact m_ri X w hr hlocks dX9_at_90
  · replace h := ifT h c15
    refine lv_iconst (v := (-1)) hx hb dX9_at_7 (by decide) ?_
    obtain ⟨rfl, rfl⟩ := reti h
    exact m_ri X w hr hlocks dX9_at_8
def f_X9_asks (N : Nat) (V : Vt) (a1 : Int32) (a2 : Int32) (a3 : Int32) : Option (Int32 × Vt) := ob1 (f_X9_isClerk N V a1) (fun r11 => if r11 = 0 then some ((-1 : Int32), V) else ob1 (f_X9_isCell N a2) (fun r14 => if r14 = 0 then some ((-1 : Int32), V) else if a3 = (0 : Int32) then ob (f_X9_takesMost N V a1 a2) (fun r18 V20 => some (r18, V20)) else if a3 = (1 : Int32) then ob (f_X9_isBarred N V a1 a2) (fun r22 V24 => if r22 = 0 then some ((0 : Int32), V24) else some ((1 : Int32), V24)) else some ((-1 : Int32), V)))
set_option maxHeartbeats 4000000 in
set_option maxRecDepth 100000 in
theorem c_X9_asks (l : Launch) (D : va_G) (cy : Nat → ClassId) (ad : Nat → Nat) (A : Nat → Prop) (Kc : State → Prop) (C0 : Cx ad A Kc) (N : Nat) (z : Nat) (V : Vt) (a1 : Int32) (a2 : Int32) (a3 : Int32) (r : Int32) (V' : Vt) (h : f_X9_asks N V a1 a2 a3 = some (r, V')) : Met l yX9_asks (mw yX9_asks cX9_asks 4 (some .int)) { frames := 87, cells := 0, slots := 0, locals := 4968 } (PreM D cy ad Kc (SM z) V [.ref (ad 0), .int a1, .int a2, .int a3]) (QI D cy ad A r (SM z) V') 0 0 A := by
  refine ct_go C0 (own := RX9) rfl (by decide) rfl ?_
  intro p e s m below meth c ls H locs X hr hlocks hnm hl w
  have hx := X.1.1
  have hb := X.1.2.1
  have hown := X.2.1
  have hts := X.2.2.1
  have hl : lv_has ls 4 [(0, .ref (ad 0)), (1, .int a1), (2, .int a2), (3, .int a3)] := hl
  rw [f_X9_asks] at h
  refine lv_aload_n hx hb dX9_asks_0 rfl (lv_at hl 0 rfl) ?_
  refine lv_iload_n hx hb dX9_asks_1 rfl (lv_at hl 1 rfl) ?_
  obtain ⟨r11, q12, h⟩ := ob1i h
  refine m_ci (m_rV (As := [.int a1]) (rest := []) X w hl mi_X9_isClerk ml_X9_136 0 sm_n0 sm_k0 rfl (c_X9_isClerk l D cy ad A Kc C0 N z V a1 r11 q12) ⟨⟨rfl, rfl, Nat.le_of_ble_eq_true rfl, Nat.le_of_ble_eq_true rfl⟩, Nat.le_of_ble_eq_true rfl, Nat.le_of_ble_eq_true rfl⟩ rfl rfl (Nat.le_of_ble_eq_true rfl) dX9_asks_2) w (fun H locs w => ?_)
  refine lv_if_eq (tgt := 15) hx hb dX9_asks_5 (by decide) (fun c13 => ?_) (fun c13 => ?_)
  · replace h := ifT h c13
    refine lv_iconst (v := (-1)) hx hb dX9_asks_15 (by decide) ?_
    obtain ⟨rfl, rfl⟩ := reti h
    exact m_ri X w hr hlocks dX9_asks_16
  · replace h := ifF h c13
    refine lv_iload_n hx hb dX9_asks_8 rfl (lv_at hl 2 rfl) ?_
    obtain ⟨r14, q15, h⟩ := ob1i h
    refine m_ci (m_rS (As := [.int a2]) (rest := []) X w hl mi_X9_isCell ml_X9_115 (c_X9_isCell l D cy ad A Kc C0 N z V a2 r14 q15) ⟨⟨rfl, rfl, Nat.le_of_ble_eq_true rfl, Nat.le_of_ble_eq_true rfl⟩, Nat.le_of_ble_eq_true rfl, Nat.le_of_ble_eq_true rfl⟩ rfl rfl (Nat.le_of_ble_eq_true rfl) dX9_asks_9) w (fun H locs w => ?_)
    refine lv_if_ne (tgt := 17) hx hb dX9_asks_12 (by decide) (fun c16 => ?_) (fun c16 => ?_)
    · replace h := ifF h c16
      refine lv_iload_n hx hb dX9_asks_17 rfl (lv_at hl 3 rfl) ?_
      rcases Decidable.em (a3 = (0 : Int32)) with c17 | c17
      · replace h := ifT h c17
        refine lv_lookup (tgt := 44) (off := 26) hx hb dX9_asks_18 (by decide) (by rw [c17]; rfl) (by decide) ?_
        refine lv_aload_n hx hb dX9_asks_44 rfl (lv_at hl 0 rfl) ?_
        refine lv_iload_n hx hb dX9_asks_45 rfl (lv_at hl 1 rfl) ?_
        refine lv_iload_n hx hb dX9_asks_46 rfl (lv_at hl 2 rfl) ?_
        obtain ⟨r18, V20, q19, h⟩ := obi h
        refine m_ci (m_rV (As := [.int a1, .int a2]) (rest := []) X w hl mi_X9_takesMost ml_X9_139 0 sm_n0 sm_k0 rfl (c_X9_takesMost l D cy ad A Kc C0 N z V a1 a2 r18 V20 q19) ⟨⟨rfl, rfl, Nat.le_of_ble_eq_true rfl, Nat.le_of_ble_eq_true rfl⟩, Nat.le_of_ble_eq_true rfl, Nat.le_of_ble_eq_true rfl⟩ rfl rfl (Nat.le_of_ble_eq_true rfl) dX9_asks_47) w (fun H locs w => ?_)
        obtain ⟨rfl, rfl⟩ := reti h
        exact m_ri X w hr hlocks dX9_asks_50
      · replace h := ifF h c17
        rcases Decidable.em (a3 = (1 : Int32)) with c21 | c21
        · replace h := ifT h c21
          refine lv_lookup (tgt := 51) (off := 33) hx hb dX9_asks_18 (by decide) (by rw [c21]; rfl) (by decide) ?_
          refine lv_aload_n hx hb dX9_asks_51 rfl (lv_at hl 0 rfl) ?_
          refine lv_iload_n hx hb dX9_asks_52 rfl (lv_at hl 1 rfl) ?_
          refine lv_iload_n hx hb dX9_asks_53 rfl (lv_at hl 2 rfl) ?_
          obtain ⟨r22, V24, q23, h⟩ := obi h
          refine m_ci (m_rV (As := [.int a1, .int a2]) (rest := []) X w hl mi_X9_isBarred ml_X9_143 0 sm_n0 sm_k0 rfl (c_X9_isBarred l D cy ad A Kc C0 N z V a1 a2 r22 V24 q23) ⟨⟨rfl, rfl, Nat.le_of_ble_eq_true rfl, Nat.le_of_ble_eq_true rfl⟩, Nat.le_of_ble_eq_true rfl, Nat.le_of_ble_eq_true rfl⟩ rfl rfl (Nat.le_of_ble_eq_true rfl) dX9_asks_54) w (fun H locs w => ?_)
          refine lv_if_eq (tgt := 64) hx hb dX9_asks_57 (by decide) (fun c25 => ?_) (fun c25 => ?_)
          · replace h := ifT h c25
            refine lv_iconst (v := 0) hx hb dX9_asks_64 (by decide) ?_
            obtain ⟨rfl, rfl⟩ := reti h
            exact m_ri X w hr hlocks dX9_asks_65
          · replace h := ifF h c25
            refine lv_iconst (v := 1) hx hb dX9_asks_60 (by decide) ?_
            refine lv_goto (tgt := 65) hx hb dX9_asks_61 (by decide) ?_
            obtain ⟨rfl, rfl⟩ := reti h
            exact m_ri X w hr hlocks dX9_asks_65
        · replace h := ifF h c21
          refine lv_lookup (tgt := 66) (off := 48) hx hb dX9_asks_18 (by decide) (by show Op.lookupswitch.offset [(0, 26), (1, 33)] 48 (a3).toInt = _; rw [lv_osw (a := 0) c17 (by decide)]; rw [lv_osw (a := 1) c21 (by decide)]; rfl) (by decide) ?_
          refine lv_iconst (v := (-1)) hx hb dX9_asks_66 (by decide) ?_
          obtain ⟨rfl, rfl⟩ := reti h
          exact m_ri X w hr hlocks dX9_asks_67
    · replace h := ifT h c16
      refine lv_iconst (v := (-1)) hx hb dX9_asks_15 (by decide) ?_
      obtain ⟨rfl, rfl⟩ := reti h
      exact m_ri X w hr hlocks dX9_asks_16
def f_X9_reads_95 (N : Nat) (V : Vt) : Option (Int32 × Vt) := bd (sF V 0 14 (V.1 0 21)) (fun V52 => ob1 (f_X9_fine N V52) (fun r53 => cb r53 (some (r53, V52))))
def f_X9_reads_67 (N : Nat) (K34 : Vt → Int32 → Option (Int32 × Vt)) (V : Vt) (v1 : Int32) : Option (Int32 × Vt) := bd (v1 + (1 : Int32)) (fun x64 => K34 V x64)
def f_X9_reads_56 (N : Nat) (K34 : Vt → Int32 → Option (Int32 × Vt)) (V : Vt) (v1 : Int32) : Option (Int32 × Vt) := ob1 (f_X9_fine N V) (fun r61 => if r61 = 0 then f_X9_reads_67 N K34 V v1 else obv (f_X9_readOne N V) (fun V67 => f_X9_reads_67 N K34 V67 v1))
def f_X9_reads_34 (N : Nat) : Nat → Vt → Int32 → Option (Int32 × Vt)
  | 0, _, _ => none
  | n + 1, V, v1 => ob1 (f_X9_sign N (59 : Int32)) (fun r43 => ob (f_X9_takes0 N V r43) (fun r45 V47 => if r45 = 0 then ob1 (f_X9_fine N V47) (fun r49 => if r49 = 0 then f_X9_reads_95 N V47  else if (V47.1 0 18) ≤ (V47.1 0 19) then f_X9_reads_95 N V47  else obv (f_X9_faults N V47) (fun V59 => f_X9_reads_95 N V59 )) else if v1 = (12 : Int32) then obv (f_X9_faults N V47) (fun V70 => f_X9_reads_56 N (f_X9_reads_34 N n) V70 v1) else f_X9_reads_56 N (f_X9_reads_34 N n) V47 v1))
def f_X9_reads (N : Nat) (V : Vt) : Option (Int32 × Vt) := obv (f_X9_splits N V (V.1 0 13)) (fun V35 => bd (sF V35 0 13 (0 : Int32)) (fun V36 => bd (sF V36 0 19 (0 : Int32)) (fun V37 => bd (sF V37 0 20 (0 : Int32)) (fun V38 => bd (sF V38 0 21 (-1 : Int32)) (fun V39 => obv (f_X9_readOne N V39) (fun V42 => f_X9_reads_34 N N V42 (1 : Int32)))))))
set_option maxHeartbeats 4000000 in
set_option maxRecDepth 100000 in
theorem c_X9_reads (l : Launch) (D : va_G) (cy : Nat → ClassId) (ad : Nat → Nat) (A : Nat → Prop) (Kc : State → Prop) (C0 : Cx ad A Kc) (N : Nat) (z : Nat) (V : Vt) (r : Int32) (V' : Vt) (h : f_X9_reads N V = some (r, V')) : Met l yX9_reads (mw yX9_reads cX9_reads 2 (some .boolean)) { frames := 87, cells := 0, slots := 0, locals := 4945 } (PreM D cy ad Kc (SM z) V [.ref (ad 0)]) (QI D cy ad A r (SM z) V') 0 0 A := by
  refine ct_go C0 (own := RX9) rfl (by decide) rfl ?_
  intro p e s m below meth c ls H locs X hr hlocks hnm hl w
  have hx := X.1.1
  have hb := X.1.2.1
  have hown := X.2.1
  have hts := X.2.2.1
  have hl : lv_has ls 2 [(0, .ref (ad 0))] := hl
  obtain ⟨G, hG⟩ : ∃ G : Nat → Vt → List (Nat × Value) → List Value → Prop, G = fun pc V lv st => ∀ (H : Heap) (locs : List Loc) (ls : Array Slot), Wd D cy ad A s.heap (SM z) V H locs → lv_has ls 2 lv → W p l e { frames := 87, cells := 0, slots := 0, locals := 4945 } s m ([.ref (ad 0)] : List Value).toArray below meth c H locs 0 0 (MQ below (QI D cy ad A r (SM z) V') ([.ref (ad 0)] : List Value).toArray s 0 0 A) (F0 m pc ls st) := ⟨_, rfl⟩
  have B95 : ∀ (V : Vt), f_X9_reads_95 N V  = some (r, V') → G 95 V [(0, .ref (ad 0))] [] := by
    intro V  h
    rw [hG]
    intro H locs ls w hl
    rw [f_X9_reads_95] at h
    refine lv_aload_n hx hb dX9_reads_95 rfl (lv_at hl 0 rfl) ?_
    refine lv_aload_n hx hb dX9_reads_96 rfl (lv_at hl 0 rfl) ?_
    refine m_get X w 0 sm_n0 sm_k0 ci9 21 (by decide) (fvI sm_k0 rfl) rfl fl_X9_171 dX9_reads_97 ?_
    refine m_put X w 0 sm_n0 sm_k0 ci9 14 (by decide) rfl rfl rfl rfl rfl fl_X9_51 dX9_reads_100 (fun V52 H locs eV52 w => ?_)
    replace h := bdi h _ eV52
    refine lv_aload_n hx hb dX9_reads_103 rfl (lv_at hl 0 rfl) ?_
    obtain ⟨r53, q54, h⟩ := ob1i h
    refine m_ci (m_rV (As := []) (rest := []) X w hl mi_X9_fine ml_X9_174 0 sm_n0 sm_k0 rfl (c_X9_fine l D cy ad A Kc C0 N z V52  r53 q54) ⟨⟨rfl, rfl, Nat.le_of_ble_eq_true rfl, Nat.le_of_ble_eq_true rfl⟩, Nat.le_of_ble_eq_true rfl, Nat.le_of_ble_eq_true rfl⟩ rfl rfl (Nat.le_of_ble_eq_true rfl) dX9_reads_104) w (fun H locs w => ?_)
    obtain ⟨g55, h⟩ := cbi h
    obtain ⟨rfl, rfl⟩ := reti h
    exact m_rz X w hr (nb01 g55) hlocks dX9_reads_107
  have L34 : ∀ (n34 : Nat) (V : Vt) (v1 : Int32), f_X9_reads_34 N n34 V v1 = some (r, V') → G 34 V [(0, .ref (ad 0)), (1, .int v1)] [] := by
    intro n34
    induction n34 with
    | zero => intro V v1 h; rw [f_X9_reads_34] at h; cases h
    | succ n34 ih34 =>
      have B67 : ∀ (V : Vt) (v1 : Int32), f_X9_reads_67 N (f_X9_reads_34 N n34) V v1 = some (r, V') → G 67 V [(0, .ref (ad 0)), (1, .int v1)] [] := by
        intro V v1 h
        rw [hG]
        intro H locs ls w hl
        rw [f_X9_reads_67] at h
        obtain ⟨x64, ex64⟩ : ∃ y : Int32, y = v1 + (1 : Int32) := ⟨_, rfl⟩
        replace h := bdi h _ ex64
        refine lv_iinc (v := x64) (lv' := [(1, .int x64), (0, .ref (ad 0))]) hx hb dX9_reads_67 hl (k := 1) rfl (by rw [ex64]; rfl) (by decide) rfl (fun ls hl => ?_)
        refine lv_goto (tgt := 34) hx hb dX9_reads_70 (by decide) ?_
        have g := ih34 V x64 h
        rw [hG] at g
        exact g H locs ls w (lv_sub hl [1, 0] rfl)
      have B56 : ∀ (V : Vt) (v1 : Int32), f_X9_reads_56 N (f_X9_reads_34 N n34) V v1 = some (r, V') → G 56 V [(0, .ref (ad 0)), (1, .int v1)] [] := by
        intro V v1 h
        rw [hG]
        intro H locs ls w hl
        rw [f_X9_reads_56] at h
        refine lv_aload_n hx hb dX9_reads_56 rfl (lv_at hl 0 rfl) ?_
        obtain ⟨r61, q62, h⟩ := ob1i h
        refine m_ci (m_rV (As := []) (rest := []) X w hl mi_X9_fine ml_X9_174 0 sm_n0 sm_k0 rfl (c_X9_fine l D cy ad A Kc C0 N z V  r61 q62) ⟨⟨rfl, rfl, Nat.le_of_ble_eq_true rfl, Nat.le_of_ble_eq_true rfl⟩, Nat.le_of_ble_eq_true rfl, Nat.le_of_ble_eq_true rfl⟩ rfl rfl (Nat.le_of_ble_eq_true rfl) dX9_reads_57) w (fun H locs w => ?_)
        refine lv_if_eq (tgt := 67) hx hb dX9_reads_60 (by decide) (fun c63 => ?_) (fun c63 => ?_)
        · replace h := ifT h c63
          have g := B67 V v1 h
          rw [hG] at g
          exact g H locs ls w (lv_sub hl [0, 1] rfl)
        · replace h := ifF h c63
          refine lv_aload_n hx hb dX9_reads_63 rfl (lv_at hl 0 rfl) ?_
          obtain ⟨V67, q66, h⟩ := obvi h
          refine m_cv (m_rV (As := []) (rest := []) X w hl mi_X9_readOne ml_X9_242 0 sm_n0 sm_k0 rfl (c_X9_readOne l D cy ad A Kc C0 N z V  V67 q66) ⟨⟨rfl, rfl, Nat.le_of_ble_eq_true rfl, Nat.le_of_ble_eq_true rfl⟩, Nat.le_of_ble_eq_true rfl, Nat.le_of_ble_eq_true rfl⟩ rfl rfl (Nat.le_of_ble_eq_true rfl) dX9_reads_64) w (fun H locs w => ?_)
          have g := B67 V67 v1 h
          rw [hG] at g
          exact g H locs ls w (lv_sub hl [0, 1] rfl)
      intro V v1 h
      rw [hG]
      intro H locs ls w hl
      rw [f_X9_reads_34] at h
      refine lv_aload_n hx hb dX9_reads_34 rfl (lv_at hl 0 rfl) ?_
      refine lv_bipush (v := 59) hx hb dX9_reads_35 (by decide) ?_
      obtain ⟨r43, q44, h⟩ := ob1i h
      refine m_ci (m_rS (As := [.int (59 : Int32)]) (rest := [.ref (ad 0)]) X w hl mi_X9_sign ml_X9_220 (c_X9_sign l D cy ad A Kc C0 N z V (59 : Int32) r43 q44) ⟨⟨rfl, rfl, Nat.le_of_ble_eq_true rfl, Nat.le_of_ble_eq_true rfl⟩, Nat.le_of_ble_eq_true rfl, Nat.le_of_ble_eq_true rfl⟩ rfl rfl (Nat.le_of_ble_eq_true rfl) dX9_reads_37) w (fun H locs w => ?_)
      obtain ⟨r45, V47, q46, h⟩ := obi h
      refine m_ci (m_rV (As := [.int r43]) (rest := []) X w hl mi_X9_takes0 ml_X9_181 0 sm_n0 sm_k0 rfl (c_X9_takes0 l D cy ad A Kc C0 N z V r43 r45 V47 q46) ⟨⟨rfl, rfl, Nat.le_of_ble_eq_true rfl, Nat.le_of_ble_eq_true rfl⟩, Nat.le_of_ble_eq_true rfl, Nat.le_of_ble_eq_true rfl⟩ rfl rfl (Nat.le_of_ble_eq_true rfl) dX9_reads_40) w (fun H locs w => ?_)
      refine lv_if_eq (tgt := 73) hx hb dX9_reads_43 (by decide) (fun c48 => ?_) (fun c48 => ?_)
      · replace h := ifT h c48
        refine lv_aload_n hx hb dX9_reads_73 rfl (lv_at hl 0 rfl) ?_
        obtain ⟨r49, q50, h⟩ := ob1i h
        refine m_ci (m_rV (As := []) (rest := []) X w hl mi_X9_fine ml_X9_174 0 sm_n0 sm_k0 rfl (c_X9_fine l D cy ad A Kc C0 N z V47  r49 q50) ⟨⟨rfl, rfl, Nat.le_of_ble_eq_true rfl, Nat.le_of_ble_eq_true rfl⟩, Nat.le_of_ble_eq_true rfl, Nat.le_of_ble_eq_true rfl⟩ rfl rfl (Nat.le_of_ble_eq_true rfl) dX9_reads_74) w (fun H locs w => ?_)
        refine lv_if_eq (tgt := 95) hx hb dX9_reads_77 (by decide) (fun c51 => ?_) (fun c51 => ?_)
        · replace h := ifT h c51
          have g := B95 V47  h
          rw [hG] at g
          exact g H locs ls w (lv_sub hl [0] rfl)
        · replace h := ifF h c51
          refine lv_aload_n hx hb dX9_reads_80 rfl (lv_at hl 0 rfl) ?_
          refine m_get X w 0 sm_n0 sm_k0 ci9 19 (by decide) (fvI sm_k0 rfl) rfl fl_X9_178 dX9_reads_81 ?_
          refine lv_aload_n hx hb dX9_reads_84 rfl (lv_at hl 0 rfl) ?_
          refine m_get X w 0 sm_n0 sm_k0 ci9 18 (by decide) (fvI sm_k0 rfl) rfl fl_X9_158 dX9_reads_85 ?_
          refine lv_icmp_ge (tgt := 95) hx hb dX9_reads_88 (by decide) (fun c56 => ?_) (fun c56 => ?_)
          · replace h := ifT h c56
            have g := B95 V47  h
            rw [hG] at g
            exact g H locs ls w (lv_sub hl [0] rfl)
          · replace h := ifF h c56
            refine lv_aload_n hx hb dX9_reads_91 rfl (lv_at hl 0 rfl) ?_
            obtain ⟨V59, q58, h⟩ := obvi h
            refine m_cv (m_rV (As := []) (rest := []) X w hl mi_X9_faults ml_X9_184 0 sm_n0 sm_k0 rfl (c_X9_faults l D cy ad A Kc C0 N z V47  V59 q58) ⟨⟨rfl, rfl, Nat.le_of_ble_eq_true rfl, Nat.le_of_ble_eq_true rfl⟩, Nat.le_of_ble_eq_true rfl, Nat.le_of_ble_eq_true rfl⟩ rfl rfl (Nat.le_of_ble_eq_true rfl) dX9_reads_92) w (fun H locs w => ?_)
            have g := B95 V59  h
            rw [hG] at g
            exact g H locs ls w (lv_sub hl [0] rfl)
      · replace h := ifF h c48
        refine lv_iload_n hx hb dX9_reads_46 rfl (lv_at hl 1 rfl) ?_
        refine lv_bipush (v := 12) hx hb dX9_reads_47 (by decide) ?_
        refine lv_icmp_ne (tgt := 56) hx hb dX9_reads_49 (by decide) (fun c60 => ?_) (fun c60 => ?_)
        · replace h := ifF h c60
          have g := B56 V47 v1 h
          rw [hG] at g
          exact g H locs ls w (lv_sub hl [0, 1] rfl)
        · replace h := ifT h c60
          refine lv_aload_n hx hb dX9_reads_52 rfl (lv_at hl 0 rfl) ?_
          obtain ⟨V70, q69, h⟩ := obvi h
          refine m_cv (m_rV (As := []) (rest := []) X w hl mi_X9_faults ml_X9_184 0 sm_n0 sm_k0 rfl (c_X9_faults l D cy ad A Kc C0 N z V47  V70 q69) ⟨⟨rfl, rfl, Nat.le_of_ble_eq_true rfl, Nat.le_of_ble_eq_true rfl⟩, Nat.le_of_ble_eq_true rfl, Nat.le_of_ble_eq_true rfl⟩ rfl rfl (Nat.le_of_ble_eq_true rfl) dX9_reads_53) w (fun H locs w => ?_)
          have g := B56 V70 v1 h
          rw [hG] at g
          exact g H locs ls w (lv_sub hl [0, 1] rfl)
  rw [f_X9_reads] at h
  refine lv_aload_n hx hb dX9_reads_0 rfl (lv_at hl 0 rfl) ?_
  refine lv_aload_n hx hb dX9_reads_1 rfl (lv_at hl 0 rfl) ?_
  refine m_get X w 0 sm_n0 sm_k0 ci9 13 (by decide) (fvI sm_k0 rfl) rfl fl_X9_152 dX9_reads_2 ?_
  obtain ⟨V35, q34, h⟩ := obvi h
  refine m_cv (m_rV (As := [.int (V.1 0 13)]) (rest := []) X w hl mi_X9_splits ml_X9_239 0 sm_n0 sm_k0 rfl (c_X9_splits l D cy ad A Kc C0 N z V (V.1 0 13) V35 q34) ⟨⟨rfl, rfl, Nat.le_of_ble_eq_true rfl, Nat.le_of_ble_eq_true rfl⟩, Nat.le_of_ble_eq_true rfl, Nat.le_of_ble_eq_true rfl⟩ rfl rfl (Nat.le_of_ble_eq_true rfl) dX9_reads_5) w (fun H locs w => ?_)
  refine lv_aload_n hx hb dX9_reads_8 rfl (lv_at hl 0 rfl) ?_
  refine lv_iconst (v := 0) hx hb dX9_reads_9 (by decide) ?_
  refine m_put X w 0 sm_n0 sm_k0 ci9 13 (by decide) rfl rfl rfl rfl rfl fl_X9_152 dX9_reads_10 (fun V36 H locs eV36 w => ?_)
  replace h := bdi h _ eV36
  refine lv_aload_n hx hb dX9_reads_13 rfl (lv_at hl 0 rfl) ?_
  refine lv_iconst (v := 0) hx hb dX9_reads_14 (by decide) ?_
  refine m_put X w 0 sm_n0 sm_k0 ci9 19 (by decide) rfl rfl rfl rfl rfl fl_X9_178 dX9_reads_15 (fun V37 H locs eV37 w => ?_)
  replace h := bdi h _ eV37
  refine lv_aload_n hx hb dX9_reads_18 rfl (lv_at hl 0 rfl) ?_
  refine lv_iconst (v := 0) hx hb dX9_reads_19 (by decide) ?_
  refine m_put X w 0 sm_n0 sm_k0 ci9 20 (by decide) rfl rfl rfl rfl rfl fl_X9_187 dX9_reads_20 (fun V38 H locs eV38 w => ?_)
  replace h := bdi h _ eV38
  refine lv_aload_n hx hb dX9_reads_23 rfl (lv_at hl 0 rfl) ?_
  refine lv_iconst (v := (-1)) hx hb dX9_reads_24 (by decide) ?_
  refine m_put X w 0 sm_n0 sm_k0 ci9 21 (by decide) rfl rfl rfl rfl rfl fl_X9_171 dX9_reads_25 (fun V39 H locs eV39 w => ?_)
  replace h := bdi h _ eV39
  refine lv_aload_n hx hb dX9_reads_28 rfl (lv_at hl 0 rfl) ?_
  obtain ⟨V42, q41, h⟩ := obvi h
  refine m_cv (m_rV (As := []) (rest := []) X w hl mi_X9_readOne ml_X9_242 0 sm_n0 sm_k0 rfl (c_X9_readOne l D cy ad A Kc C0 N z V39  V42 q41) ⟨⟨rfl, rfl, Nat.le_of_ble_eq_true rfl, Nat.le_of_ble_eq_true rfl⟩, Nat.le_of_ble_eq_true rfl, Nat.le_of_ble_eq_true rfl⟩ rfl rfl (Nat.le_of_ble_eq_true rfl) dX9_reads_29) w (fun H locs w => ?_)
  refine lv_iconst (v := 1) hx hb dX9_reads_32 (by decide) ?_
  refine lv_istore_n (lv' := [(1, .int (1 : Int32)), (0, .ref (ad 0))]) hx hb dX9_reads_33 rfl hl (by decide) rfl (fun ls hl => ?_)
  have g := L34 N V42 (1 : Int32) h
  rw [hG] at g
  exact g H locs ls w (lv_sub hl [1, 0] rfl)
def f_X9_canTake (N : Nat) (V : Vt) (a1 : Int32) (a2 : Int32) : Option (Int32 × Vt) := ob (f_X9_isBarred N V a2 a1) (fun r10 V12 => if r10 = 0 then ck ((0 : Int32) + a1) 5715 (ob (f_X9_takesMost N V12 a2 a1) (fun r15 V17 => ob1 (f_X9_lesser N (V12.2.1 2 ((0 : Int32) + a1).toNatClampNeg) r15) (fun r18 => some (r18, V17)))) else some ((0 : Int32), V12))
set_option maxHeartbeats 4000000 in
set_option maxRecDepth 100000 in
theorem c_X9_canTake (l : Launch) (D : va_G) (cy : Nat → ClassId) (ad : Nat → Nat) (A : Nat → Prop) (Kc : State → Prop) (C0 : Cx ad A Kc) (N : Nat) (z : Nat) (V : Vt) (a1 : Int32) (a2 : Int32) (r : Int32) (V' : Vt) (h : f_X9_canTake N V a1 a2 = some (r, V')) : Met l yX9_canTake (mw yX9_canTake cX9_canTake 3 (some .int)) { frames := 87, cells := 0, slots := 0, locals := 4968 } (PreM D cy ad Kc (SM z) V [.ref (ad 0), .int a1, .int a2]) (QI D cy ad A r (SM z) V') 0 0 A := by
  refine ct_go C0 (own := RX9) rfl (by decide) rfl ?_
  intro p e s m below meth c ls H locs X hr hlocks hnm hl w
  have hx := X.1.1
  have hb := X.1.2.1
  have hown := X.2.1
  have hts := X.2.2.1
  have hl : lv_has ls 3 [(0, .ref (ad 0)), (1, .int a1), (2, .int a2)] := hl
  rw [f_X9_canTake] at h
  refine lv_aload_n hx hb dX9_canTake_0 rfl (lv_at hl 0 rfl) ?_
  refine lv_iload_n hx hb dX9_canTake_1 rfl (lv_at hl 2 rfl) ?_
  refine lv_iload_n hx hb dX9_canTake_2 rfl (lv_at hl 1 rfl) ?_
  obtain ⟨r10, V12, q11, h⟩ := obi h
  refine m_ci (m_rV (As := [.int a2, .int a1]) (rest := []) X w hl mi_X9_isBarred ml_X9_143 0 sm_n0 sm_k0 rfl (c_X9_isBarred l D cy ad A Kc C0 N z V a2 a1 r10 V12 q11) ⟨⟨rfl, rfl, Nat.le_of_ble_eq_true rfl, Nat.le_of_ble_eq_true rfl⟩, Nat.le_of_ble_eq_true rfl, Nat.le_of_ble_eq_true rfl⟩ rfl rfl (Nat.le_of_ble_eq_true rfl) dX9_canTake_3) w (fun H locs w => ?_)
  refine lv_if_eq (tgt := 13) hx hb dX9_canTake_6 (by decide) (fun c13 => ?_) (fun c13 => ?_)
  · replace h := ifT h c13
    refine lv_aload_n hx hb dX9_canTake_13 rfl (lv_at hl 0 rfl) ?_
    refine m_get X w 0 sm_n0 sm_k0 ci9 2 (by decide) (fvR sm_k0 rfl sm_p2) rfl fl_X9_28 dX9_canTake_14 ?_
    refine lv_iconst (v := 0) hx hb dX9_canTake_17 (by decide) ?_
    refine lv_iload_n hx hb dX9_canTake_18 rfl (lv_at hl 1 rfl) ?_
    refine lv_iadd hx hb dX9_canTake_19 ?_
    obtain ⟨g14, h⟩ := cki h
    refine m_iald X w 2 sm_n2 sm_k2 sm_z2 g14 dX9_canTake_20 ?_
    refine lv_aload_n hx hb dX9_canTake_21 rfl (lv_at hl 0 rfl) ?_
    refine lv_iload_n hx hb dX9_canTake_22 rfl (lv_at hl 2 rfl) ?_
    refine lv_iload_n hx hb dX9_canTake_23 rfl (lv_at hl 1 rfl) ?_
    obtain ⟨r15, V17, q16, h⟩ := obi h
    refine m_ci (m_rV (As := [.int a2, .int a1]) (rest := [.int (V12.2.1 2 ((0 : Int32) + a1).toNatClampNeg)]) X w hl mi_X9_takesMost ml_X9_139 0 sm_n0 sm_k0 rfl (c_X9_takesMost l D cy ad A Kc C0 N z V12 a2 a1 r15 V17 q16) ⟨⟨rfl, rfl, Nat.le_of_ble_eq_true rfl, Nat.le_of_ble_eq_true rfl⟩, Nat.le_of_ble_eq_true rfl, Nat.le_of_ble_eq_true rfl⟩ rfl rfl (Nat.le_of_ble_eq_true rfl) dX9_canTake_24) w (fun H locs w => ?_)
    obtain ⟨r18, q19, h⟩ := ob1i h
    refine m_ci (m_rS (As := [.int (V12.2.1 2 ((0 : Int32) + a1).toNatClampNeg), .int r15]) (rest := []) X w hl mi_X9_lesser ml_X9_319 (c_X9_lesser l D cy ad A Kc C0 N z V17 (V12.2.1 2 ((0 : Int32) + a1).toNatClampNeg) r15 r18 q19) ⟨⟨rfl, rfl, Nat.le_of_ble_eq_true rfl, Nat.le_of_ble_eq_true rfl⟩, Nat.le_of_ble_eq_true rfl, Nat.le_of_ble_eq_true rfl⟩ rfl rfl (Nat.le_of_ble_eq_true rfl) dX9_canTake_27) w (fun H locs w => ?_)
    obtain ⟨rfl, rfl⟩ := reti h
    exact m_ri X w hr hlocks dX9_canTake_30
  · replace h := ifF h c13
    refine lv_iconst (v := 0) hx hb dX9_canTake_9 (by decide) ?_
    refine lv_goto (tgt := 30) hx hb dX9_canTake_10 (by decide) ?_
    obtain ⟨rfl, rfl⟩ := reti h
    exact m_ri X w hr hlocks dX9_canTake_30
def f_X9_stepFrom_17 (N : Nat) (V : Vt) (v1 : Int32) (s0 : Int32) : Option (Int32 × Vt) := if s0 = 0 then some (v1, V) else ob1 (f_X9_beside N v1 s0) (fun r20 => if r20 = (25 : Int32) then some (r20, V) else ck (30 : Int32) 5715 (ob1 (f_X9_isIn N (V.2.1 2 (30 : Int32).toNatClampNeg) r20) (fun r24 => if r24 = 0 then some (r20, V) else some (v1, V))))
def f_X9_stepFrom (N : Nat) (V : Vt) (a1 : Int32) : Option (Int32 × Vt) := ob (f_X9_bites N V a1) (fun r12 V14 => if r12 = 0 then ob (f_X9_ledFrom N V14 a1) (fun r16 V18 => f_X9_stepFrom_17 N V18 a1 r16) else f_X9_stepFrom_17 N V14 a1 (0 : Int32))
set_option maxHeartbeats 4000000 in
set_option maxRecDepth 100000 in
theorem c_X9_stepFrom (l : Launch) (D : va_G) (cy : Nat → ClassId) (ad : Nat → Nat) (A : Nat → Prop) (Kc : State → Prop) (C0 : Cx ad A Kc) (N : Nat) (z : Nat) (V : Vt) (a1 : Int32) (r : Int32) (V' : Vt) (h : f_X9_stepFrom N V a1 = some (r, V')) : Met l yX9_stepFrom (mw yX9_stepFrom cX9_stepFrom 4 (some .int)) { frames := 87, cells := 0, slots := 0, locals := 4967 } (PreM D cy ad Kc (SM z) V [.ref (ad 0), .int a1]) (QI D cy ad A r (SM z) V') 0 0 A := by
  refine ct_go C0 (own := RX9) rfl (by decide) rfl ?_
  intro p e s m below meth c ls H locs X hr hlocks hnm hl w
  have hx := X.1.1
  have hb := X.1.2.1
  have hown := X.2.1
  have hts := X.2.2.1
  have hl : lv_has ls 4 [(0, .ref (ad 0)), (1, .int a1)] := hl
  obtain ⟨G, hG⟩ : ∃ G : Nat → Vt → List (Nat × Value) → List Value → Prop, G = fun pc V lv st => ∀ (H : Heap) (locs : List Loc) (ls : Array Slot), Wd D cy ad A s.heap (SM z) V H locs → lv_has ls 4 lv → W p l e { frames := 87, cells := 0, slots := 0, locals := 4967 } s m ([.ref (ad 0), .int a1] : List Value).toArray below meth c H locs 0 0 (MQ below (QI D cy ad A r (SM z) V') ([.ref (ad 0), .int a1] : List Value).toArray s 0 0 A) (F0 m pc ls st) := ⟨_, rfl⟩
  have B17 : ∀ (V : Vt) (v1 : Int32) (s0 : Int32), f_X9_stepFrom_17 N V v1 s0 = some (r, V') → G 17 V [(0, .ref (ad 0)), (1, .int v1)] [.int s0] := by
    intro V v1 s0 h
    rw [hG]
    intro H locs ls w hl
    rw [f_X9_stepFrom_17] at h
    refine lv_istore_n (lv' := [(2, .int s0), (0, .ref (ad 0)), (1, .int v1)]) hx hb dX9_stepFrom_17 rfl hl (by decide) rfl (fun ls hl => ?_)
    refine lv_iload_n hx hb dX9_stepFrom_18 rfl (lv_at hl 0 rfl) ?_
    refine lv_if_ne (tgt := 24) hx hb dX9_stepFrom_19 (by decide) (fun c19 => ?_) (fun c19 => ?_)
    · replace h := ifF h c19
      refine lv_aload_n hx hb dX9_stepFrom_24 rfl (lv_at hl 1 rfl) ?_
      refine lv_iload_n hx hb dX9_stepFrom_25 rfl (lv_at hl 2 rfl) ?_
      refine lv_iload_n hx hb dX9_stepFrom_26 rfl (lv_at hl 0 rfl) ?_
      obtain ⟨r20, q21, h⟩ := ob1i h
      refine m_ci (m_rV (As := [.int v1, .int s0]) (rest := []) X w hl mi_X9_beside ml_X9_367 0 sm_n0 sm_k0 rfl (c_X9_beside l D cy ad A Kc C0 N z V v1 s0 r20 q21) ⟨⟨rfl, rfl, Nat.le_of_ble_eq_true rfl, Nat.le_of_ble_eq_true rfl⟩, Nat.le_of_ble_eq_true rfl, Nat.le_of_ble_eq_true rfl⟩ rfl rfl (Nat.le_of_ble_eq_true rfl) dX9_stepFrom_27) w (fun H locs w => ?_)
      refine lv_istore_n (lv' := [(3, .int r20), (2, .int s0), (0, .ref (ad 0)), (1, .int v1)]) hx hb dX9_stepFrom_30 rfl hl (by decide) rfl (fun ls hl => ?_)
      refine lv_iload_n hx hb dX9_stepFrom_31 rfl (lv_at hl 0 rfl) ?_
      refine lv_bipush (v := 25) hx hb dX9_stepFrom_32 (by decide) ?_
      refine lv_icmp_eq (tgt := 55) hx hb dX9_stepFrom_34 (by decide) (fun c22 => ?_) (fun c22 => ?_)
      · replace h := ifT h c22
        refine lv_iload_n hx hb dX9_stepFrom_55 rfl (lv_at hl 0 rfl) ?_
        obtain ⟨rfl, rfl⟩ := reti h
        exact m_ri X w hr hlocks dX9_stepFrom_56
      · replace h := ifF h c22
        refine lv_aload_n hx hb dX9_stepFrom_37 rfl (lv_at hl 2 rfl) ?_
        refine m_get X w 0 sm_n0 sm_k0 ci9 2 (by decide) (fvR sm_k0 rfl sm_p2) rfl fl_X9_28 dX9_stepFrom_38 ?_
        refine lv_bipush (v := 30) hx hb dX9_stepFrom_41 (by decide) ?_
        obtain ⟨g23, h⟩ := cki h
        refine m_iald X w 2 sm_n2 sm_k2 sm_z2 g23 dX9_stepFrom_43 ?_
        refine lv_iload_n hx hb dX9_stepFrom_44 rfl (lv_at hl 0 rfl) ?_
        obtain ⟨r24, q25, h⟩ := ob1i h
        refine m_ci (m_rS (As := [.int (V.2.1 2 (30 : Int32).toNatClampNeg), .int r20]) (rest := []) X w hl mi_X9_isIn ml_X9_119 (c_X9_isIn l D cy ad A Kc C0 N z V (V.2.1 2 (30 : Int32).toNatClampNeg) r20 r24 q25) ⟨⟨rfl, rfl, Nat.le_of_ble_eq_true rfl, Nat.le_of_ble_eq_true rfl⟩, Nat.le_of_ble_eq_true rfl, Nat.le_of_ble_eq_true rfl⟩ rfl rfl (Nat.le_of_ble_eq_true rfl) dX9_stepFrom_45) w (fun H locs w => ?_)
        refine lv_if_eq (tgt := 55) hx hb dX9_stepFrom_48 (by decide) (fun c26 => ?_) (fun c26 => ?_)
        · replace h := ifT h c26
          refine lv_iload_n hx hb dX9_stepFrom_55 rfl (lv_at hl 0 rfl) ?_
          obtain ⟨rfl, rfl⟩ := reti h
          exact m_ri X w hr hlocks dX9_stepFrom_56
        · replace h := ifF h c26
          refine lv_iload_n hx hb dX9_stepFrom_51 rfl (lv_at hl 3 rfl) ?_
          refine lv_goto (tgt := 56) hx hb dX9_stepFrom_52 (by decide) ?_
          obtain ⟨rfl, rfl⟩ := reti h
          exact m_ri X w hr hlocks dX9_stepFrom_56
    · replace h := ifT h c19
      refine lv_iload_n hx hb dX9_stepFrom_22 rfl (lv_at hl 2 rfl) ?_
      obtain ⟨rfl, rfl⟩ := reti h
      exact m_ri X w hr hlocks dX9_stepFrom_23
  rw [f_X9_stepFrom] at h
  refine lv_aload_n hx hb dX9_stepFrom_0 rfl (lv_at hl 0 rfl) ?_
  refine lv_iload_n hx hb dX9_stepFrom_1 rfl (lv_at hl 1 rfl) ?_
  obtain ⟨r12, V14, q13, h⟩ := obi h
  refine m_ci (m_rV (As := [.int a1]) (rest := []) X w hl mi_X9_bites ml_X9_126 0 sm_n0 sm_k0 rfl (c_X9_bites l D cy ad A Kc C0 N z V a1 r12 V14 q13) ⟨⟨rfl, rfl, Nat.le_of_ble_eq_true rfl, Nat.le_of_ble_eq_true rfl⟩, Nat.le_of_ble_eq_true rfl, Nat.le_of_ble_eq_true rfl⟩ rfl rfl (Nat.le_of_ble_eq_true rfl) dX9_stepFrom_2) w (fun H locs w => ?_)
  refine lv_if_eq (tgt := 12) hx hb dX9_stepFrom_5 (by decide) (fun c15 => ?_) (fun c15 => ?_)
  · replace h := ifT h c15
    refine lv_aload_n hx hb dX9_stepFrom_12 rfl (lv_at hl 0 rfl) ?_
    refine lv_iload_n hx hb dX9_stepFrom_13 rfl (lv_at hl 1 rfl) ?_
    obtain ⟨r16, V18, q17, h⟩ := obi h
    refine m_ci (m_rV (As := [.int a1]) (rest := []) X w hl mi_X9_ledFrom ml_X9_123 0 sm_n0 sm_k0 rfl (c_X9_ledFrom l D cy ad A Kc C0 N z V14 a1 r16 V18 q17) ⟨⟨rfl, rfl, Nat.le_of_ble_eq_true rfl, Nat.le_of_ble_eq_true rfl⟩, Nat.le_of_ble_eq_true rfl, Nat.le_of_ble_eq_true rfl⟩ rfl rfl (Nat.le_of_ble_eq_true rfl) dX9_stepFrom_14) w (fun H locs w => ?_)
    have g := B17 V18 a1 r16 h
    rw [hG] at g
    exact g H locs ls w (lv_sub hl [0, 1] rfl)
  · replace h := ifF h c15
    refine lv_iconst (v := 0) hx hb dX9_stepFrom_8 (by decide) ?_
    refine lv_goto (tgt := 17) hx hb dX9_stepFrom_9 (by decide) ?_
    have g := B17 V14 a1 (0 : Int32) h
    rw [hG] at g
    exact g H locs ls w (lv_sub hl [0, 1] rfl)
def f_X9_readsAs_32 (N : Nat) (V : Vt) (s0 : Int32) : Option (Int32 × Vt) := bd (sF V 0 9 s0) (fun V13 => ob (f_X9_reads N V13) (fun r14 V16 => cb r14 (some (r14, V16))))
def f_X9_readsAs_17 (N : Nat) (V : Vt) (v1 : Int32) (s0 : Int32) : Option (Int32 × Vt) := bd (sF V 0 8 s0) (fun V11 => if v1 = 0 then f_X9_readsAs_32 N V11 (18 : Int32) else f_X9_readsAs_32 N V11 (21 : Int32))
def f_X9_readsAs (N : Nat) (V : Vt) (a1 : Int32) : Option (Int32 × Vt) := cb a1 (bd (sF V 0 10 a1) (fun V9 => if a1 = 0 then f_X9_readsAs_17 N V9 a1 (9 : Int32) else f_X9_readsAs_17 N V9 a1 (15 : Int32)))
set_option maxHeartbeats 4000000 in
set_option maxRecDepth 100000 in
theorem c_X9_readsAs (l : Launch) (D : va_G) (cy : Nat → ClassId) (ad : Nat → Nat) (A : Nat → Prop) (Kc : State → Prop) (C0 : Cx ad A Kc) (N : Nat) (z : Nat) (V : Vt) (a1 : Int32) (r : Int32) (V' : Vt) (h : f_X9_readsAs N V a1 = some (r, V')) : Met l yX9_readsAs (mw yX9_readsAs cX9_readsAs 2 (some .boolean)) { frames := 88, cells := 0, slots := 0, locals := 4966 } (PreM D cy ad Kc (SM z) V [.ref (ad 0), .int a1]) (QI D cy ad A r (SM z) V') 0 0 A := by
  refine ct_go C0 (own := RX9) rfl (by decide) rfl ?_
  intro p e s m below meth c ls H locs X hr hlocks hnm hl w
  have hx := X.1.1
  have hb := X.1.2.1
  have hown := X.2.1
  have hts := X.2.2.1
  have hl : lv_has ls 2 [(0, .ref (ad 0)), (1, .int a1)] := hl
  obtain ⟨G, hG⟩ : ∃ G : Nat → Vt → List (Nat × Value) → List Value → Prop, G = fun pc V lv st => ∀ (H : Heap) (locs : List Loc) (ls : Array Slot), Wd D cy ad A s.heap (SM z) V H locs → lv_has ls 2 lv → W p l e { frames := 88, cells := 0, slots := 0, locals := 4966 } s m ([.ref (ad 0), .int a1] : List Value).toArray below meth c H locs 0 0 (MQ below (QI D cy ad A r (SM z) V') ([.ref (ad 0), .int a1] : List Value).toArray s 0 0 A) (F0 m pc ls st) := ⟨_, rfl⟩
  have B32 : ∀ (V : Vt) (s0 : Int32), f_X9_readsAs_32 N V s0 = some (r, V') → G 32 V [(0, .ref (ad 0))] [.int s0, .ref (ad 0)] := by
    intro V s0 h
    rw [hG]
    intro H locs ls w hl
    rw [f_X9_readsAs_32] at h
    refine m_put X w 0 sm_n0 sm_k0 ci9 9 (by decide) rfl rfl rfl rfl rfl fl_X9_233 dX9_readsAs_32 (fun V13 H locs eV13 w => ?_)
    replace h := bdi h _ eV13
    refine lv_aload_n hx hb dX9_readsAs_35 rfl (lv_at hl 0 rfl) ?_
    obtain ⟨r14, V16, q15, h⟩ := obi h
    refine m_ci (m_rV (As := []) (rest := []) X w hl mi_X9_reads ml_X9_245 0 sm_n0 sm_k0 rfl (c_X9_reads l D cy ad A Kc C0 N z V13  r14 V16 q15) ⟨⟨rfl, rfl, Nat.le_of_ble_eq_true rfl, Nat.le_of_ble_eq_true rfl⟩, Nat.le_of_ble_eq_true rfl, Nat.le_of_ble_eq_true rfl⟩ rfl rfl (Nat.le_of_ble_eq_true rfl) dX9_readsAs_36) w (fun H locs w => ?_)
    obtain ⟨g17, h⟩ := cbi h
    obtain ⟨rfl, rfl⟩ := reti h
    exact m_rz X w hr (nb01 g17) hlocks dX9_readsAs_39
  have B17 : ∀ (V : Vt) (v1 : Int32) (s0 : Int32), f_X9_readsAs_17 N V v1 s0 = some (r, V') → G 17 V [(0, .ref (ad 0)), (1, .int v1)] [.int s0, .ref (ad 0)] := by
    intro V v1 s0 h
    rw [hG]
    intro H locs ls w hl
    rw [f_X9_readsAs_17] at h
    refine m_put X w 0 sm_n0 sm_k0 ci9 8 (by decide) rfl rfl rfl rfl rfl fl_X9_230 dX9_readsAs_17 (fun V11 H locs eV11 w => ?_)
    replace h := bdi h _ eV11
    refine lv_aload_n hx hb dX9_readsAs_20 rfl (lv_at hl 0 rfl) ?_
    refine lv_iload_n hx hb dX9_readsAs_21 rfl (lv_at hl 1 rfl) ?_
    refine lv_if_eq (tgt := 30) hx hb dX9_readsAs_22 (by decide) (fun c12 => ?_) (fun c12 => ?_)
    · replace h := ifT h c12
      refine lv_bipush (v := 18) hx hb dX9_readsAs_30 (by decide) ?_
      have g := B32 V11 (18 : Int32) h
      rw [hG] at g
      exact g H locs ls w (lv_sub hl [0] rfl)
    · replace h := ifF h c12
      refine lv_bipush (v := 21) hx hb dX9_readsAs_25 (by decide) ?_
      refine lv_goto (tgt := 32) hx hb dX9_readsAs_27 (by decide) ?_
      have g := B32 V11 (21 : Int32) h
      rw [hG] at g
      exact g H locs ls w (lv_sub hl [0] rfl)
  rw [f_X9_readsAs] at h
  refine lv_aload_n hx hb dX9_readsAs_0 rfl (lv_at hl 0 rfl) ?_
  refine lv_iload_n hx hb dX9_readsAs_1 rfl (lv_at hl 1 rfl) ?_
  obtain ⟨g8, h⟩ := cbi h
  refine m_put X w 0 sm_n0 sm_k0 ci9 10 (by decide) rfl rfl rfl (nb01 g8) (fb01 g8) fl_X9_204 dX9_readsAs_2 (fun V9 H locs eV9 w => ?_)
  replace h := bdi h _ eV9
  refine lv_aload_n hx hb dX9_readsAs_5 rfl (lv_at hl 0 rfl) ?_
  refine lv_iload_n hx hb dX9_readsAs_6 rfl (lv_at hl 1 rfl) ?_
  refine lv_if_eq (tgt := 15) hx hb dX9_readsAs_7 (by decide) (fun c10 => ?_) (fun c10 => ?_)
  · replace h := ifT h c10
    refine lv_bipush (v := 9) hx hb dX9_readsAs_15 (by decide) ?_
    have g := B17 V9 a1 (9 : Int32) h
    rw [hG] at g
    exact g H locs ls w (lv_sub hl [0, 1] rfl)
  · replace h := ifF h c10
    refine lv_bipush (v := 15) hx hb dX9_readsAs_10 (by decide) ?_
    refine lv_goto (tgt := 17) hx hb dX9_readsAs_12 (by decide) ?_
    have g := B17 V9 a1 (15 : Int32) h
    rw [hG] at g
    exact g H locs ls w (lv_sub hl [0, 1] rfl)
def f_X9_takesKept (N : Nat) (V : Vt) (a1 : Int32) (a2 : Int32) : Option (Int32 × Vt) := ob1 (f_X9_isCell N a1) (fun r14 => if r14 = 0 then some ((-1 : Int32), V) else ob1 (f_X9_isClerk N V a2) (fun r17 => if r17 = 0 then some ((-2 : Int32), V) else ob (f_X9_canTake N V a1 a2) (fun r20 V22 => if r20 = 0 then some ((-3 : Int32), V22) else obv (f_X9_keeps N V22 (0 : Int32)) (fun V26 => obv (f_X9_takesNow N V26 a1 a2 r20) (fun V29 => some (r20, V29))))))
set_option maxHeartbeats 4000000 in
set_option maxRecDepth 100000 in
theorem c_X9_takesKept (l : Launch) (D : va_G) (cy : Nat → ClassId) (ad : Nat → Nat) (A : Nat → Prop) (Kc : State → Prop) (C0 : Cx ad A Kc) (N : Nat) (z : Nat) (V : Vt) (a1 : Int32) (a2 : Int32) (r : Int32) (V' : Vt) (h : f_X9_takesKept N V a1 a2 = some (r, V')) : Met l yX9_takesKept (mw yX9_takesKept cX9_takesKept 4 (some .int)) { frames := 88, cells := 0, slots := 0, locals := 4990 } (PreM D cy ad Kc (SM z) V [.ref (ad 0), .int a1, .int a2]) (QI D cy ad A r (SM z) V') 0 0 A := by
  refine ct_go C0 (own := RX9) rfl (by decide) rfl ?_
  intro p e s m below meth c ls H locs X hr hlocks hnm hl w
  have hx := X.1.1
  have hb := X.1.2.1
  have hown := X.2.1
  have hts := X.2.2.1
  have hl : lv_has ls 4 [(0, .ref (ad 0)), (1, .int a1), (2, .int a2)] := hl
  rw [f_X9_takesKept] at h
  refine lv_iload_n hx hb dX9_takesKept_0 rfl (lv_at hl 1 rfl) ?_
  obtain ⟨r14, q15, h⟩ := ob1i h
  refine m_ci (m_rS (As := [.int a1]) (rest := []) X w hl mi_X9_isCell ml_X9_115 (c_X9_isCell l D cy ad A Kc C0 N z V a1 r14 q15) ⟨⟨rfl, rfl, Nat.le_of_ble_eq_true rfl, Nat.le_of_ble_eq_true rfl⟩, Nat.le_of_ble_eq_true rfl, Nat.le_of_ble_eq_true rfl⟩ rfl rfl (Nat.le_of_ble_eq_true rfl) dX9_takesKept_1) w (fun H locs w => ?_)
  refine lv_if_ne (tgt := 9) hx hb dX9_takesKept_4 (by decide) (fun c16 => ?_) (fun c16 => ?_)
  · replace h := ifF h c16
    refine lv_aload_n hx hb dX9_takesKept_9 rfl (lv_at hl 0 rfl) ?_
    refine lv_iload_n hx hb dX9_takesKept_10 rfl (lv_at hl 2 rfl) ?_
    obtain ⟨r17, q18, h⟩ := ob1i h
    refine m_ci (m_rV (As := [.int a2]) (rest := []) X w hl mi_X9_isClerk ml_X9_136 0 sm_n0 sm_k0 rfl (c_X9_isClerk l D cy ad A Kc C0 N z V a2 r17 q18) ⟨⟨rfl, rfl, Nat.le_of_ble_eq_true rfl, Nat.le_of_ble_eq_true rfl⟩, Nat.le_of_ble_eq_true rfl, Nat.le_of_ble_eq_true rfl⟩ rfl rfl (Nat.le_of_ble_eq_true rfl) dX9_takesKept_11) w (fun H locs w => ?_)
    refine lv_if_ne (tgt := 20) hx hb dX9_takesKept_14 (by decide) (fun c19 => ?_) (fun c19 => ?_)
    · replace h := ifF h c19
      refine lv_aload_n hx hb dX9_takesKept_20 rfl (lv_at hl 0 rfl) ?_
      refine lv_iload_n hx hb dX9_takesKept_21 rfl (lv_at hl 1 rfl) ?_
      refine lv_iload_n hx hb dX9_takesKept_22 rfl (lv_at hl 2 rfl) ?_
      obtain ⟨r20, V22, q21, h⟩ := obi h
      refine m_ci (m_rV (As := [.int a1, .int a2]) (rest := []) X w hl mi_X9_canTake ml_X9_322 0 sm_n0 sm_k0 rfl (c_X9_canTake l D cy ad A Kc C0 N z V a1 a2 r20 V22 q21) ⟨⟨rfl, rfl, Nat.le_of_ble_eq_true rfl, Nat.le_of_ble_eq_true rfl⟩, Nat.le_of_ble_eq_true rfl, Nat.le_of_ble_eq_true rfl⟩ rfl rfl (Nat.le_of_ble_eq_true rfl) dX9_takesKept_23) w (fun H locs w => ?_)
      refine lv_istore_n (lv' := [(3, .int r20), (0, .ref (ad 0)), (1, .int a1), (2, .int a2)]) hx hb dX9_takesKept_26 rfl hl (by decide) rfl (fun ls hl => ?_)
      refine lv_iload_n hx hb dX9_takesKept_27 rfl (lv_at hl 0 rfl) ?_
      refine lv_if_ne (tgt := 34) hx hb dX9_takesKept_28 (by decide) (fun c23 => ?_) (fun c23 => ?_)
      · replace h := ifF h c23
        refine lv_aload_n hx hb dX9_takesKept_34 rfl (lv_at hl 1 rfl) ?_
        refine lv_iconst (v := 0) hx hb dX9_takesKept_35 (by decide) ?_
        obtain ⟨V26, q25, h⟩ := obvi h
        refine m_cv (m_rV (As := [.int (0 : Int32)]) (rest := []) X w hl mi_X9_keeps ml_X9_325 0 sm_n0 sm_k0 rfl (c_X9_keeps l D cy ad A Kc C0 N z V22 (0 : Int32) V26 q25) ⟨⟨rfl, rfl, Nat.le_of_ble_eq_true rfl, Nat.le_of_ble_eq_true rfl⟩, Nat.le_of_ble_eq_true rfl, Nat.le_of_ble_eq_true rfl⟩ rfl rfl (Nat.le_of_ble_eq_true rfl) dX9_takesKept_36) w (fun H locs w => ?_)
        refine lv_aload_n hx hb dX9_takesKept_39 rfl (lv_at hl 1 rfl) ?_
        refine lv_iload_n hx hb dX9_takesKept_40 rfl (lv_at hl 2 rfl) ?_
        refine lv_iload_n hx hb dX9_takesKept_41 rfl (lv_at hl 3 rfl) ?_
        refine lv_iload_n hx hb dX9_takesKept_42 rfl (lv_at hl 0 rfl) ?_
        obtain ⟨V29, q28, h⟩ := obvi h
        refine m_cv (m_rV (As := [.int a1, .int a2, .int r20]) (rest := []) X w hl mi_X9_takesNow ml_X9_328 0 sm_n0 sm_k0 rfl (c_X9_takesNow l D cy ad A Kc C0 N z V26 a1 a2 r20 V29 q28) ⟨⟨rfl, rfl, Nat.le_of_ble_eq_true rfl, Nat.le_of_ble_eq_true rfl⟩, Nat.le_of_ble_eq_true rfl, Nat.le_of_ble_eq_true rfl⟩ rfl rfl (Nat.le_of_ble_eq_true rfl) dX9_takesKept_43) w (fun H locs w => ?_)
        refine lv_iload_n hx hb dX9_takesKept_46 rfl (lv_at hl 0 rfl) ?_
        obtain ⟨rfl, rfl⟩ := reti h
        exact m_ri X w hr hlocks dX9_takesKept_47
      · replace h := ifT h c23
        refine lv_bipush (v := (-3)) hx hb dX9_takesKept_31 (by decide) ?_
        obtain ⟨rfl, rfl⟩ := reti h
        exact m_ri X w hr hlocks dX9_takesKept_33
    · replace h := ifT h c19
      refine lv_bipush (v := (-2)) hx hb dX9_takesKept_17 (by decide) ?_
      obtain ⟨rfl, rfl⟩ := reti h
      exact m_ri X w hr hlocks dX9_takesKept_19
  · replace h := ifT h c16
    refine lv_iconst (v := (-1)) hx hb dX9_takesKept_7 (by decide) ?_
    obtain ⟨rfl, rfl⟩ := reti h
    exact m_ri X w hr hlocks dX9_takesKept_8
def f_X9_laysSteps_2 (N : Nat) : Nat → Vt → Int32 → Option Vt
  | 0, _, _ => none
  | n + 1, V, v1 => if (25 : Int32) ≤ v1 then ck (25 : Int32) 26 (bd (sA V 18 (25 : Int32).toNatClampNeg (25 : Int32)) (fun V11 => some V11)) else ob (f_X9_stepFrom N V v1) (fun r12 V14 => ck v1 26 (bd (sA V14 18 v1.toNatClampNeg r12) (fun V16 => bd (v1 + (1 : Int32)) (fun x17 => (f_X9_laysSteps_2 N n) V16 x17))))
def f_X9_laysSteps (N : Nat) (V : Vt) : Option Vt := f_X9_laysSteps_2 N N V (0 : Int32)
set_option maxHeartbeats 4000000 in
set_option maxRecDepth 100000 in
theorem c_X9_laysSteps (l : Launch) (D : va_G) (cy : Nat → ClassId) (ad : Nat → Nat) (A : Nat → Prop) (Kc : State → Prop) (C0 : Cx ad A Kc) (N : Nat) (z : Nat) (V : Vt) (V' : Vt) (h : f_X9_laysSteps N V = some V') : Met l yX9_laysSteps (mw yX9_laysSteps cX9_laysSteps 2 none) { frames := 88, cells := 0, slots := 0, locals := 4990 } (PreM D cy ad Kc (SM z) V [.ref (ad 0)]) (QV D cy ad A (SM z) V') 0 0 A := by
  refine ct_go C0 (own := RX9) rfl (by decide) rfl ?_
  intro p e s m below meth c ls H locs X hr hlocks hnm hl w
  have hx := X.1.1
  have hb := X.1.2.1
  have hown := X.2.1
  have hts := X.2.2.1
  have hl : lv_has ls 2 [(0, .ref (ad 0))] := hl
  obtain ⟨G, hG⟩ : ∃ G : Nat → Vt → List (Nat × Value) → List Value → Prop, G = fun pc V lv st => ∀ (H : Heap) (locs : List Loc) (ls : Array Slot), Wd D cy ad A s.heap (SM z) V H locs → lv_has ls 2 lv → W p l e { frames := 88, cells := 0, slots := 0, locals := 4990 } s m ([.ref (ad 0)] : List Value).toArray below meth c H locs 0 0 (MQ below (QV D cy ad A (SM z) V') ([.ref (ad 0)] : List Value).toArray s 0 0 A) (F0 m pc ls st) := ⟨_, rfl⟩
  have L2 : ∀ (n2 : Nat) (V : Vt) (v1 : Int32), f_X9_laysSteps_2 N n2 V v1 = some V' → G 2 V [(0, .ref (ad 0)), (1, .int v1)] [] := by
    intro n2
    induction n2 with
    | zero => intro V v1 h; rw [f_X9_laysSteps_2] at h; cases h
    | succ n2 ih2 =>
      intro V v1 h
      rw [hG]
      intro H locs ls w hl
      rw [f_X9_laysSteps_2] at h
      refine lv_iload_n hx hb dX9_laysSteps_2 rfl (lv_at hl 1 rfl) ?_
      refine lv_bipush (v := 25) hx hb dX9_laysSteps_3 (by decide) ?_
      refine lv_icmp_ge (tgt := 25) hx hb dX9_laysSteps_5 (by decide) (fun c9 => ?_) (fun c9 => ?_)
      · replace h := ifT h c9
        refine lv_aload_n hx hb dX9_laysSteps_25 rfl (lv_at hl 0 rfl) ?_
        refine m_get X w 0 sm_n0 sm_k0 ci9 35 (by decide) (fvR sm_k0 rfl sm_p35) rfl fl_X9_81 dX9_laysSteps_26 ?_
        refine lv_bipush (v := 25) hx hb dX9_laysSteps_29 (by decide) ?_
        refine lv_bipush (v := 25) hx hb dX9_laysSteps_31 (by decide) ?_
        obtain ⟨g10, h⟩ := cki h
        refine m_iast X w 18 sm_n18 sm_k18 sm_z18 g10 dX9_laysSteps_33 (fun V11 H locs eV11 w => ?_)
        replace h := bdi h _ eV11
        obtain rfl := Option.some.inj h
        exact m_rv X w hr hlocks dX9_laysSteps_34
      · replace h := ifF h c9
        refine lv_aload_n hx hb dX9_laysSteps_8 rfl (lv_at hl 0 rfl) ?_
        refine m_get X w 0 sm_n0 sm_k0 ci9 35 (by decide) (fvR sm_k0 rfl sm_p35) rfl fl_X9_81 dX9_laysSteps_9 ?_
        refine lv_iload_n hx hb dX9_laysSteps_12 rfl (lv_at hl 1 rfl) ?_
        refine lv_aload_n hx hb dX9_laysSteps_13 rfl (lv_at hl 0 rfl) ?_
        refine lv_iload_n hx hb dX9_laysSteps_14 rfl (lv_at hl 1 rfl) ?_
        obtain ⟨r12, V14, q13, h⟩ := obi h
        refine m_ci (m_rV (As := [.int v1]) (rest := [.int v1, .ref (ad 18)]) X w hl mi_X9_stepFrom ml_X9_370 0 sm_n0 sm_k0 rfl (c_X9_stepFrom l D cy ad A Kc C0 N z V v1 r12 V14 q13) ⟨⟨rfl, rfl, Nat.le_of_ble_eq_true rfl, Nat.le_of_ble_eq_true rfl⟩, Nat.le_of_ble_eq_true rfl, Nat.le_of_ble_eq_true rfl⟩ rfl rfl (Nat.le_of_ble_eq_true rfl) dX9_laysSteps_15) w (fun H locs w => ?_)
        obtain ⟨g15, h⟩ := cki h
        refine m_iast X w 18 sm_n18 sm_k18 sm_z18 g15 dX9_laysSteps_18 (fun V16 H locs eV16 w => ?_)
        replace h := bdi h _ eV16
        obtain ⟨x17, ex17⟩ : ∃ y : Int32, y = v1 + (1 : Int32) := ⟨_, rfl⟩
        replace h := bdi h _ ex17
        refine lv_iinc (v := x17) (lv' := [(1, .int x17), (0, .ref (ad 0))]) hx hb dX9_laysSteps_19 hl (k := 1) rfl (by rw [ex17]; rfl) (by decide) rfl (fun ls hl => ?_)
        refine lv_goto (tgt := 2) hx hb dX9_laysSteps_22 (by decide) ?_
        have g := ih2 V16 x17 h
        rw [hG] at g
        exact g H locs ls w (lv_sub hl [1, 0] rfl)
  rw [f_X9_laysSteps] at h
  refine lv_iconst (v := 0) hx hb dX9_laysSteps_0 (by decide) ?_
  refine lv_istore_n (lv' := [(1, .int (0 : Int32)), (0, .ref (ad 0))]) hx hb dX9_laysSteps_1 rfl hl (by decide) rfl (fun ls hl => ?_)
  have g := L2 N V (0 : Int32) h
  rw [hG] at g
  exact g H locs ls w (lv_sub hl [1, 0] rfl)
def f_X9_dayIsDrawn (N : Nat) (V : Vt) : Option (Int32 × Vt) := ob (f_X9_draws N V (V.1 0 48)) (fun r16 V18 => ob (f_X9_draws N V18 (25 : Int32)) (fun r19 V21 => ob (f_X9_canTake N V21 r19 r16) (fun r22 V24 => obv (f_X9_takesNow N V24 r19 r16 r22) (fun V27 => ck (31 : Int32) 5715 (ck (31 : Int32) 5715 (bd (sA V27 2 (31 : Int32).toNatClampNeg ((V27.2.1 2 (31 : Int32).toNatClampNeg) + (1 : Int32))) (fun V30 => some (r22, V30))))))))
set_option maxHeartbeats 4000000 in
set_option maxRecDepth 100000 in
theorem c_X9_dayIsDrawn (l : Launch) (D : va_G) (cy : Nat → ClassId) (ad : Nat → Nat) (A : Nat → Prop) (Kc : State → Prop) (C0 : Cx ad A Kc) (N : Nat) (z : Nat) (V : Vt) (r : Int32) (V' : Vt) (h : f_X9_dayIsDrawn N V = some (r, V')) : Met l yX9_dayIsDrawn (mw yX9_dayIsDrawn cX9_dayIsDrawn 4 (some .int)) { frames := 88, cells := 0, slots := 0, locals := 4990 } (PreM D cy ad Kc (SM z) V [.ref (ad 0)]) (QI D cy ad A r (SM z) V') 0 0 A := by
  refine ct_go C0 (own := RX9) rfl (by decide) rfl ?_
  intro p e s m below meth c ls H locs X hr hlocks hnm hl w
  have hx := X.1.1
  have hb := X.1.2.1
  have hown := X.2.1
  have hts := X.2.2.1
  have hl : lv_has ls 4 [(0, .ref (ad 0))] := hl
  rw [f_X9_dayIsDrawn] at h
  refine lv_aload_n hx hb dX9_dayIsDrawn_0 rfl (lv_at hl 0 rfl) ?_
  refine lv_aload_n hx hb dX9_dayIsDrawn_1 rfl (lv_at hl 0 rfl) ?_
  refine m_get X w 0 sm_n0 sm_k0 ci9 48 (by decide) (fvI sm_k0 rfl) rfl fl_X9_106 dX9_dayIsDrawn_2 ?_
  obtain ⟨r16, V18, q17, h⟩ := obi h
  refine m_ci (m_rV (As := [.int (V.1 0 48)]) (rest := []) X w hl mi_X9_draws ml_X9_464 0 sm_n0 sm_k0 rfl (c_X9_draws l D cy ad A Kc C0 N z V (V.1 0 48) r16 V18 q17) ⟨⟨rfl, rfl, Nat.le_of_ble_eq_true rfl, Nat.le_of_ble_eq_true rfl⟩, Nat.le_of_ble_eq_true rfl, Nat.le_of_ble_eq_true rfl⟩ rfl rfl (Nat.le_of_ble_eq_true rfl) dX9_dayIsDrawn_5) w (fun H locs w => ?_)
  refine lv_istore_n (lv' := [(1, .int r16), (0, .ref (ad 0))]) hx hb dX9_dayIsDrawn_8 rfl hl (by decide) rfl (fun ls hl => ?_)
  refine lv_aload_n hx hb dX9_dayIsDrawn_9 rfl (lv_at hl 1 rfl) ?_
  refine lv_bipush (v := 25) hx hb dX9_dayIsDrawn_10 (by decide) ?_
  obtain ⟨r19, V21, q20, h⟩ := obi h
  refine m_ci (m_rV (As := [.int (25 : Int32)]) (rest := []) X w hl mi_X9_draws ml_X9_464 0 sm_n0 sm_k0 rfl (c_X9_draws l D cy ad A Kc C0 N z V18 (25 : Int32) r19 V21 q20) ⟨⟨rfl, rfl, Nat.le_of_ble_eq_true rfl, Nat.le_of_ble_eq_true rfl⟩, Nat.le_of_ble_eq_true rfl, Nat.le_of_ble_eq_true rfl⟩ rfl rfl (Nat.le_of_ble_eq_true rfl) dX9_dayIsDrawn_12) w (fun H locs w => ?_)
  refine lv_istore_n (lv' := [(2, .int r19), (1, .int r16), (0, .ref (ad 0))]) hx hb dX9_dayIsDrawn_15 rfl hl (by decide) rfl (fun ls hl => ?_)
  refine lv_aload_n hx hb dX9_dayIsDrawn_16 rfl (lv_at hl 2 rfl) ?_
  refine lv_iload_n hx hb dX9_dayIsDrawn_17 rfl (lv_at hl 0 rfl) ?_
  refine lv_iload_n hx hb dX9_dayIsDrawn_18 rfl (lv_at hl 1 rfl) ?_
  obtain ⟨r22, V24, q23, h⟩ := obi h
  refine m_ci (m_rV (As := [.int r19, .int r16]) (rest := []) X w hl mi_X9_canTake ml_X9_322 0 sm_n0 sm_k0 rfl (c_X9_canTake l D cy ad A Kc C0 N z V21 r19 r16 r22 V24 q23) ⟨⟨rfl, rfl, Nat.le_of_ble_eq_true rfl, Nat.le_of_ble_eq_true rfl⟩, Nat.le_of_ble_eq_true rfl, Nat.le_of_ble_eq_true rfl⟩ rfl rfl (Nat.le_of_ble_eq_true rfl) dX9_dayIsDrawn_19) w (fun H locs w => ?_)
  refine lv_istore_n (lv' := [(3, .int r22), (2, .int r19), (1, .int r16), (0, .ref (ad 0))]) hx hb dX9_dayIsDrawn_22 rfl hl (by decide) rfl (fun ls hl => ?_)
  refine lv_aload_n hx hb dX9_dayIsDrawn_23 rfl (lv_at hl 3 rfl) ?_
  refine lv_iload_n hx hb dX9_dayIsDrawn_24 rfl (lv_at hl 1 rfl) ?_
  refine lv_iload_n hx hb dX9_dayIsDrawn_25 rfl (lv_at hl 2 rfl) ?_
  refine lv_iload_n hx hb dX9_dayIsDrawn_26 rfl (lv_at hl 0 rfl) ?_
  obtain ⟨V27, q26, h⟩ := obvi h
  refine m_cv (m_rV (As := [.int r19, .int r16, .int r22]) (rest := []) X w hl mi_X9_takesNow ml_X9_328 0 sm_n0 sm_k0 rfl (c_X9_takesNow l D cy ad A Kc C0 N z V24 r19 r16 r22 V27 q26) ⟨⟨rfl, rfl, Nat.le_of_ble_eq_true rfl, Nat.le_of_ble_eq_true rfl⟩, Nat.le_of_ble_eq_true rfl, Nat.le_of_ble_eq_true rfl⟩ rfl rfl (Nat.le_of_ble_eq_true rfl) dX9_dayIsDrawn_27) w (fun H locs w => ?_)
  refine lv_aload_n hx hb dX9_dayIsDrawn_30 rfl (lv_at hl 3 rfl) ?_
  refine m_get X w 0 sm_n0 sm_k0 ci9 2 (by decide) (fvR sm_k0 rfl sm_p2) rfl fl_X9_28 dX9_dayIsDrawn_31 ?_
  refine lv_bipush (v := 31) hx hb dX9_dayIsDrawn_34 (by decide) ?_
  refine lv_dup2_11 hx hb dX9_dayIsDrawn_36 rfl rfl ?_
  obtain ⟨g28, h⟩ := cki h
  refine m_iald X w 2 sm_n2 sm_k2 sm_z2 g28 dX9_dayIsDrawn_37 ?_
  refine lv_iconst (v := 1) hx hb dX9_dayIsDrawn_38 (by decide) ?_
  refine lv_iadd hx hb dX9_dayIsDrawn_39 ?_
  obtain ⟨g29, h⟩ := cki h
  refine m_iast X w 2 sm_n2 sm_k2 sm_z2 g29 dX9_dayIsDrawn_40 (fun V30 H locs eV30 w => ?_)
  replace h := bdi h _ eV30
  refine lv_iload_n hx hb dX9_dayIsDrawn_41 rfl (lv_at hl 0 rfl) ?_
  obtain ⟨rfl, rfl⟩ := reti h
  exact m_ri X w hr hlocks dX9_dayIsDrawn_42
def f_X9_law (N : Nat) (V : Vt) : Option (Int32 × Vt) := ck (106 : Int32) 5715 (if (V.2.1 2 (106 : Int32).toNatClampNeg) = (6 : Int32) then bd (sF V 0 13 (0 : Int32)) (fun V43 => ob (f_X9_refuses N V43 (-5 : Int32)) (fun r44 V46 => some (r44, V46))) else ob (f_X9_readsAs N V (0 : Int32)) (fun r25 V27 => if r25 = 0 then ob (f_X9_refuses N V27 (-6 : Int32)) (fun r40 V42 => some (r40, V42)) else ck (106 : Int32) 5715 (obv (f_X9_lays N V27 (V27.2.1 2 (106 : Int32).toNatClampNeg)) (fun V32 => ck (106 : Int32) 5715 (ck (106 : Int32) 5715 (bd (sA V32 2 (106 : Int32).toNatClampNeg ((V32.2.1 2 (106 : Int32).toNatClampNeg) + (1 : Int32))) (fun V35 => ck (106 : Int32) 5715 (ob (f_X9_good N V35 ((V35.2.1 2 (106 : Int32).toNatClampNeg) - (1 : Int32))) (fun r37 V39 => some (r37, V39))))))))))
set_option maxHeartbeats 4000000 in
set_option maxRecDepth 100000 in
theorem c_X9_law (l : Launch) (D : va_G) (cy : Nat → ClassId) (ad : Nat → Nat) (A : Nat → Prop) (Kc : State → Prop) (C0 : Cx ad A Kc) (N : Nat) (z : Nat) (V : Vt) (r : Int32) (V' : Vt) (h : f_X9_law N V = some (r, V')) : Met l yX9_law (mw yX9_law cX9_law 1 (some .int)) { frames := 89, cells := 0, slots := 0, locals := 4987 } (PreM D cy ad Kc (SM z) V [.ref (ad 0)]) (QI D cy ad A r (SM z) V') 0 0 A := by
  refine ct_go C0 (own := RX9) rfl (by decide) rfl ?_
  intro p e s m below meth c ls H locs X hr hlocks hnm hl w
  have hx := X.1.1
  have hb := X.1.2.1
  have hown := X.2.1
  have hts := X.2.2.1
  have hl : lv_has ls 1 [(0, .ref (ad 0))] := hl
  rw [f_X9_law] at h
  refine lv_aload_n hx hb dX9_law_0 rfl (lv_at hl 0 rfl) ?_
  refine m_get X w 0 sm_n0 sm_k0 ci9 2 (by decide) (fvR sm_k0 rfl sm_p2) rfl fl_X9_28 dX9_law_1 ?_
  refine lv_bipush (v := 106) hx hb dX9_law_4 (by decide) ?_
  obtain ⟨g23, h⟩ := cki h
  refine m_iald X w 2 sm_n2 sm_k2 sm_z2 g23 dX9_law_6 ?_
  refine lv_bipush (v := 6) hx hb dX9_law_7 (by decide) ?_
  refine lv_icmp_ne (tgt := 24) hx hb dX9_law_9 (by decide) (fun c24 => ?_) (fun c24 => ?_)
  · replace h := ifF h c24
    refine lv_aload_n hx hb dX9_law_24 rfl (lv_at hl 0 rfl) ?_
    refine lv_iconst (v := 0) hx hb dX9_law_25 (by decide) ?_
    obtain ⟨r25, V27, q26, h⟩ := obi h
    refine m_ci (m_rV (As := [.int (0 : Int32)]) (rest := []) X w hl mi_X9_readsAs ml_X9_248 0 sm_n0 sm_k0 rfl (c_X9_readsAs l D cy ad A Kc C0 N z V (0 : Int32) r25 V27 q26) ⟨⟨rfl, rfl, Nat.le_of_ble_eq_true rfl, Nat.le_of_ble_eq_true rfl⟩, Nat.le_of_ble_eq_true rfl, Nat.le_of_ble_eq_true rfl⟩ rfl rfl (Nat.le_of_ble_eq_true rfl) dX9_law_26) w (fun H locs w => ?_)
    refine lv_if_ne (tgt := 39) hx hb dX9_law_29 (by decide) (fun c28 => ?_) (fun c28 => ?_)
    · replace h := ifF h c28
      refine lv_aload_n hx hb dX9_law_39 rfl (lv_at hl 0 rfl) ?_
      refine lv_aload_n hx hb dX9_law_40 rfl (lv_at hl 0 rfl) ?_
      refine m_get X w 0 sm_n0 sm_k0 ci9 2 (by decide) (fvR sm_k0 rfl sm_p2) rfl fl_X9_28 dX9_law_41 ?_
      refine lv_bipush (v := 106) hx hb dX9_law_44 (by decide) ?_
      obtain ⟨g29, h⟩ := cki h
      refine m_iald X w 2 sm_n2 sm_k2 sm_z2 g29 dX9_law_46 ?_
      obtain ⟨V32, q31, h⟩ := obvi h
      refine m_cv (m_rV (As := [.int (V27.2.1 2 (106 : Int32).toNatClampNeg)]) (rest := []) X w hl mi_X9_lays ml_X9_252 0 sm_n0 sm_k0 rfl (c_X9_lays l D cy ad A Kc C0 N z V27 (V27.2.1 2 (106 : Int32).toNatClampNeg) V32 q31) ⟨⟨rfl, rfl, Nat.le_of_ble_eq_true rfl, Nat.le_of_ble_eq_true rfl⟩, Nat.le_of_ble_eq_true rfl, Nat.le_of_ble_eq_true rfl⟩ rfl rfl (Nat.le_of_ble_eq_true rfl) dX9_law_47) w (fun H locs w => ?_)
      refine lv_aload_n hx hb dX9_law_50 rfl (lv_at hl 0 rfl) ?_
      refine m_get X w 0 sm_n0 sm_k0 ci9 2 (by decide) (fvR sm_k0 rfl sm_p2) rfl fl_X9_28 dX9_law_51 ?_
      refine lv_bipush (v := 106) hx hb dX9_law_54 (by decide) ?_
      refine lv_dup2_11 hx hb dX9_law_56 rfl rfl ?_
      obtain ⟨g33, h⟩ := cki h
      refine m_iald X w 2 sm_n2 sm_k2 sm_z2 g33 dX9_law_57 ?_
      refine lv_iconst (v := 1) hx hb dX9_law_58 (by decide) ?_
      refine lv_iadd hx hb dX9_law_59 ?_
      obtain ⟨g34, h⟩ := cki h
      refine m_iast X w 2 sm_n2 sm_k2 sm_z2 g34 dX9_law_60 (fun V35 H locs eV35 w => ?_)
      replace h := bdi h _ eV35
      refine lv_aload_n hx hb dX9_law_61 rfl (lv_at hl 0 rfl) ?_
      refine lv_aload_n hx hb dX9_law_62 rfl (lv_at hl 0 rfl) ?_
      refine m_get X w 0 sm_n0 sm_k0 ci9 2 (by decide) (fvR sm_k0 rfl sm_p2) rfl fl_X9_28 dX9_law_63 ?_
      refine lv_bipush (v := 106) hx hb dX9_law_66 (by decide) ?_
      obtain ⟨g36, h⟩ := cki h
      refine m_iald X w 2 sm_n2 sm_k2 sm_z2 g36 dX9_law_68 ?_
      refine lv_iconst (v := 1) hx hb dX9_law_69 (by decide) ?_
      refine lv_isub hx hb dX9_law_70 ?_
      obtain ⟨r37, V39, q38, h⟩ := obi h
      refine m_ci (m_rV (As := [.int ((V35.2.1 2 (106 : Int32).toNatClampNeg) - (1 : Int32))]) (rest := []) X w hl mi_X9_good ml_X9_14 0 sm_n0 sm_k0 rfl (c_X9_good l D cy ad A Kc C0 N z V35 ((V35.2.1 2 (106 : Int32).toNatClampNeg) - (1 : Int32)) r37 V39 q38) ⟨⟨rfl, rfl, Nat.le_of_ble_eq_true rfl, Nat.le_of_ble_eq_true rfl⟩, Nat.le_of_ble_eq_true rfl, Nat.le_of_ble_eq_true rfl⟩ rfl rfl (Nat.le_of_ble_eq_true rfl) dX9_law_71) w (fun H locs w => ?_)
      obtain ⟨rfl, rfl⟩ := reti h
      exact m_ri X w hr hlocks dX9_law_74
    · replace h := ifT h c28
      refine lv_aload_n hx hb dX9_law_32 rfl (lv_at hl 0 rfl) ?_
      refine lv_bipush (v := (-6)) hx hb dX9_law_33 (by decide) ?_
      obtain ⟨r40, V42, q41, h⟩ := obi h
      refine m_ci (m_rV (As := [.int (-6 : Int32)]) (rest := []) X w hl mi_X9_refuses ml_X9_109 0 sm_n0 sm_k0 rfl (c_X9_refuses l D cy ad A Kc C0 N z V27 (-6 : Int32) r40 V42 q41) ⟨⟨rfl, rfl, Nat.le_of_ble_eq_true rfl, Nat.le_of_ble_eq_true rfl⟩, Nat.le_of_ble_eq_true rfl, Nat.le_of_ble_eq_true rfl⟩ rfl rfl (Nat.le_of_ble_eq_true rfl) dX9_law_35) w (fun H locs w => ?_)
      obtain ⟨rfl, rfl⟩ := reti h
      exact m_ri X w hr hlocks dX9_law_38
  · replace h := ifT h c24
    refine lv_aload_n hx hb dX9_law_12 rfl (lv_at hl 0 rfl) ?_
    refine lv_iconst (v := 0) hx hb dX9_law_13 (by decide) ?_
    refine m_put X w 0 sm_n0 sm_k0 ci9 13 (by decide) rfl rfl rfl rfl rfl fl_X9_152 dX9_law_14 (fun V43 H locs eV43 w => ?_)
    replace h := bdi h _ eV43
    refine lv_aload_n hx hb dX9_law_17 rfl (lv_at hl 0 rfl) ?_
    refine lv_bipush (v := (-5)) hx hb dX9_law_18 (by decide) ?_
    obtain ⟨r44, V46, q45, h⟩ := obi h
    refine m_ci (m_rV (As := [.int (-5 : Int32)]) (rest := []) X w hl mi_X9_refuses ml_X9_109 0 sm_n0 sm_k0 rfl (c_X9_refuses l D cy ad A Kc C0 N z V43 (-5 : Int32) r44 V46 q45) ⟨⟨rfl, rfl, Nat.le_of_ble_eq_true rfl, Nat.le_of_ble_eq_true rfl⟩, Nat.le_of_ble_eq_true rfl, Nat.le_of_ble_eq_true rfl⟩ rfl rfl (Nat.le_of_ble_eq_true rfl) dX9_law_20) w (fun H locs w => ?_)
    obtain ⟨rfl, rfl⟩ := reti h
    exact m_ri X w hr hlocks dX9_law_23
def f_X9_take (N : Nat) (V : Vt) (a1 : Int32) (a2 : Int32) : Option (Int32 × Vt) := ob (f_X9_takesKept N V a1 a2) (fun r7 V9 => ob (f_X9_goodOr N V9 r7) (fun r10 V12 => some (r10, V12)))
set_option maxHeartbeats 4000000 in
set_option maxRecDepth 100000 in
theorem c_X9_take (l : Launch) (D : va_G) (cy : Nat → ClassId) (ad : Nat → Nat) (A : Nat → Prop) (Kc : State → Prop) (C0 : Cx ad A Kc) (N : Nat) (z : Nat) (V : Vt) (a1 : Int32) (a2 : Int32) (r : Int32) (V' : Vt) (h : f_X9_take N V a1 a2 = some (r, V')) : Met l yX9_take (mw yX9_take cX9_take 3 (some .int)) { frames := 89, cells := 0, slots := 0, locals := 5013 } (PreM D cy ad Kc (SM z) V [.ref (ad 0), .int a1, .int a2]) (QI D cy ad A r (SM z) V') 0 0 A := by
  refine ct_go C0 (own := RX9) rfl (by decide) rfl ?_
  intro p e s m below meth c ls H locs X hr hlocks hnm hl w
  have hx := X.1.1
  have hb := X.1.2.1
  have hown := X.2.1
  have hts := X.2.2.1
  have hl : lv_has ls 3 [(0, .ref (ad 0)), (1, .int a1), (2, .int a2)] := hl
  rw [f_X9_take] at h
  refine lv_aload_n hx hb dX9_take_0 rfl (lv_at hl 0 rfl) ?_
  refine lv_aload_n hx hb dX9_take_1 rfl (lv_at hl 0 rfl) ?_
  refine lv_iload_n hx hb dX9_take_2 rfl (lv_at hl 1 rfl) ?_
  refine lv_iload_n hx hb dX9_take_3 rfl (lv_at hl 2 rfl) ?_
  obtain ⟨r7, V9, q8, h⟩ := obi h
  refine m_ci (m_rV (As := [.int a1, .int a2]) (rest := [.ref (ad 0)]) X w hl mi_X9_takesKept ml_X9_332 0 sm_n0 sm_k0 rfl (c_X9_takesKept l D cy ad A Kc C0 N z V a1 a2 r7 V9 q8) ⟨⟨rfl, rfl, Nat.le_of_ble_eq_true rfl, Nat.le_of_ble_eq_true rfl⟩, Nat.le_of_ble_eq_true rfl, Nat.le_of_ble_eq_true rfl⟩ rfl rfl (Nat.le_of_ble_eq_true rfl) dX9_take_4) w (fun H locs w => ?_)
  obtain ⟨r10, V12, q11, h⟩ := obi h
  refine m_ci (m_rV (As := [.int r7]) (rest := []) X w hl mi_X9_goodOr ml_X9_335 0 sm_n0 sm_k0 rfl (c_X9_goodOr l D cy ad A Kc C0 N z V9 r7 r10 V12 q11) ⟨⟨rfl, rfl, Nat.le_of_ble_eq_true rfl, Nat.le_of_ble_eq_true rfl⟩, Nat.le_of_ble_eq_true rfl, Nat.le_of_ble_eq_true rfl⟩ rfl rfl (Nat.le_of_ble_eq_true rfl) dX9_take_7) w (fun H locs w => ?_)
  obtain ⟨rfl, rfl⟩ := reti h
  exact m_ri X w hr hlocks dX9_take_10
def f_X9_hound (N : Nat) (V : Vt) (a1 : Int32) (a2 : Int32) : Option (Int32 × Vt) := ob1 (f_X9_isCell N a1) (fun r10 => if r10 = 0 then some ((-1 : Int32), V) else ob1 (f_X9_lies N a2 (0 : Int32) (99 : Int32)) (fun r13 => if r13 = 0 then some ((-1 : Int32), V) else obv (f_X9_laysSteps N V) (fun V18 => ob1 (f_X9_behind N V18 a1 a2) (fun r19 => some (r19, V18)))))
set_option maxHeartbeats 4000000 in
set_option maxRecDepth 100000 in
theorem c_X9_hound (l : Launch) (D : va_G) (cy : Nat → ClassId) (ad : Nat → Nat) (A : Nat → Prop) (Kc : State → Prop) (C0 : Cx ad A Kc) (N : Nat) (z : Nat) (V : Vt) (a1 : Int32) (a2 : Int32) (r : Int32) (V' : Vt) (h : f_X9_hound N V a1 a2 = some (r, V')) : Met l yX9_hound (mw yX9_hound cX9_hound 3 (some .int)) { frames := 89, cells := 0, slots := 0, locals := 5011 } (PreM D cy ad Kc (SM z) V [.ref (ad 0), .int a1, .int a2]) (QI D cy ad A r (SM z) V') 0 0 A := by
  refine ct_go C0 (own := RX9) rfl (by decide) rfl ?_
  intro p e s m below meth c ls H locs X hr hlocks hnm hl w
  have hx := X.1.1
  have hb := X.1.2.1
  have hown := X.2.1
  have hts := X.2.2.1
  have hl : lv_has ls 3 [(0, .ref (ad 0)), (1, .int a1), (2, .int a2)] := hl
  rw [f_X9_hound] at h
  refine lv_iload_n hx hb dX9_hound_0 rfl (lv_at hl 1 rfl) ?_
  obtain ⟨r10, q11, h⟩ := ob1i h
  refine m_ci (m_rS (As := [.int a1]) (rest := []) X w hl mi_X9_isCell ml_X9_115 (c_X9_isCell l D cy ad A Kc C0 N z V a1 r10 q11) ⟨⟨rfl, rfl, Nat.le_of_ble_eq_true rfl, Nat.le_of_ble_eq_true rfl⟩, Nat.le_of_ble_eq_true rfl, Nat.le_of_ble_eq_true rfl⟩ rfl rfl (Nat.le_of_ble_eq_true rfl) dX9_hound_1) w (fun H locs w => ?_)
  refine lv_if_eq (tgt := 17) hx hb dX9_hound_4 (by decide) (fun c12 => ?_) (fun c12 => ?_)
  · replace h := ifT h c12
    refine lv_iconst (v := (-1)) hx hb dX9_hound_17 (by decide) ?_
    obtain ⟨rfl, rfl⟩ := reti h
    exact m_ri X w hr hlocks dX9_hound_18
  · replace h := ifF h c12
    refine lv_iload_n hx hb dX9_hound_7 rfl (lv_at hl 2 rfl) ?_
    refine lv_iconst (v := 0) hx hb dX9_hound_8 (by decide) ?_
    refine lv_bipush (v := 99) hx hb dX9_hound_9 (by decide) ?_
    obtain ⟨r13, q14, h⟩ := ob1i h
    refine m_ci (m_rS (As := [.int a2, .int (0 : Int32), .int (99 : Int32)]) (rest := []) X w hl mi_X9_lies ml_X9_18 (c_X9_lies l D cy ad A Kc C0 N z V a2 (0 : Int32) (99 : Int32) r13 q14) ⟨⟨rfl, rfl, Nat.le_of_ble_eq_true rfl, Nat.le_of_ble_eq_true rfl⟩, Nat.le_of_ble_eq_true rfl, Nat.le_of_ble_eq_true rfl⟩ rfl rfl (Nat.le_of_ble_eq_true rfl) dX9_hound_11) w (fun H locs w => ?_)
    refine lv_if_ne (tgt := 19) hx hb dX9_hound_14 (by decide) (fun c15 => ?_) (fun c15 => ?_)
    · replace h := ifF h c15
      refine lv_aload_n hx hb dX9_hound_19 rfl (lv_at hl 0 rfl) ?_
      obtain ⟨V18, q17, h⟩ := obvi h
      refine m_cv (m_rV (As := []) (rest := []) X w hl mi_X9_laysSteps ml_X9_373 0 sm_n0 sm_k0 rfl (c_X9_laysSteps l D cy ad A Kc C0 N z V  V18 q17) ⟨⟨rfl, rfl, Nat.le_of_ble_eq_true rfl, Nat.le_of_ble_eq_true rfl⟩, Nat.le_of_ble_eq_true rfl, Nat.le_of_ble_eq_true rfl⟩ rfl rfl (Nat.le_of_ble_eq_true rfl) dX9_hound_20) w (fun H locs w => ?_)
      refine lv_aload_n hx hb dX9_hound_23 rfl (lv_at hl 0 rfl) ?_
      refine lv_iload_n hx hb dX9_hound_24 rfl (lv_at hl 1 rfl) ?_
      refine lv_iload_n hx hb dX9_hound_25 rfl (lv_at hl 2 rfl) ?_
      obtain ⟨r19, q20, h⟩ := ob1i h
      refine m_ci (m_rV (As := [.int a1, .int a2]) (rest := []) X w hl mi_X9_behind ml_X9_376 0 sm_n0 sm_k0 rfl (c_X9_behind l D cy ad A Kc C0 N z V18 a1 a2 r19 q20) ⟨⟨rfl, rfl, Nat.le_of_ble_eq_true rfl, Nat.le_of_ble_eq_true rfl⟩, Nat.le_of_ble_eq_true rfl, Nat.le_of_ble_eq_true rfl⟩ rfl rfl (Nat.le_of_ble_eq_true rfl) dX9_hound_26) w (fun H locs w => ?_)
      obtain ⟨rfl, rfl⟩ := reti h
      exact m_ri X w hr hlocks dX9_hound_29
    · replace h := ifT h c15
      refine lv_iconst (v := (-1)) hx hb dX9_hound_17 (by decide) ?_
      obtain ⟨rfl, rfl⟩ := reti h
      exact m_ri X w hr hlocks dX9_hound_18
def f_X9_ring_27 (N : Nat) : Nat → Vt → Int32 → Int32 → Int32 → Option (Int32 × Vt)
  | 0, _, _, _, _ => none
  | n + 1, V, v2, v3, v4 => ob1 (f_X9_isOnRing N V v3) (fun r24 => if r24 = 0 then ck v3 26 (bd (V.2.1 18 v3.toNatClampNeg) (fun x32 => bd (v4 + (1 : Int32)) (fun x33 => (f_X9_ring_27 N n) V v2 x32 x33))) else if v2 = 0 then some (v4, V) else if v3 = (25 : Int32) then some ((0 : Int32), V) else ob1 (f_X9_ringOf N V v3) (fun r29 => some (r29, V)))
def f_X9_ring (N : Nat) (V : Vt) (a1 : Int32) (a2 : Int32) : Option (Int32 × Vt) := ob1 (f_X9_isCell N a1) (fun r15 => if r15 = 0 then some ((-1 : Int32), V) else ob1 (f_X9_lies N a2 (0 : Int32) (1 : Int32)) (fun r18 => if r18 = 0 then some ((-1 : Int32), V) else obv (f_X9_laysSteps N V) (fun V23 => f_X9_ring_27 N N V23 a2 a1 (0 : Int32))))
set_option maxHeartbeats 4000000 in
set_option maxRecDepth 100000 in
theorem c_X9_ring (l : Launch) (D : va_G) (cy : Nat → ClassId) (ad : Nat → Nat) (A : Nat → Prop) (Kc : State → Prop) (C0 : Cx ad A Kc) (N : Nat) (z : Nat) (V : Vt) (a1 : Int32) (a2 : Int32) (r : Int32) (V' : Vt) (h : f_X9_ring N V a1 a2 = some (r, V')) : Met l yX9_ring (mw yX9_ring cX9_ring 5 (some .int)) { frames := 89, cells := 0, slots := 0, locals := 5011 } (PreM D cy ad Kc (SM z) V [.ref (ad 0), .int a1, .int a2]) (QI D cy ad A r (SM z) V') 0 0 A := by
  refine ct_go C0 (own := RX9) rfl (by decide) rfl ?_
  intro p e s m below meth c ls H locs X hr hlocks hnm hl w
  have hx := X.1.1
  have hb := X.1.2.1
  have hown := X.2.1
  have hts := X.2.2.1
  have hl : lv_has ls 5 [(0, .ref (ad 0)), (1, .int a1), (2, .int a2)] := hl
  obtain ⟨G, hG⟩ : ∃ G : Nat → Vt → List (Nat × Value) → List Value → Prop, G = fun pc V lv st => ∀ (H : Heap) (locs : List Loc) (ls : Array Slot), Wd D cy ad A s.heap (SM z) V H locs → lv_has ls 5 lv → W p l e { frames := 89, cells := 0, slots := 0, locals := 5011 } s m ([.ref (ad 0), .int a1, .int a2] : List Value).toArray below meth c H locs 0 0 (MQ below (QI D cy ad A r (SM z) V') ([.ref (ad 0), .int a1, .int a2] : List Value).toArray s 0 0 A) (F0 m pc ls st) := ⟨_, rfl⟩
  have L27 : ∀ (n27 : Nat) (V : Vt) (v2 : Int32) (v3 : Int32) (v4 : Int32), f_X9_ring_27 N n27 V v2 v3 v4 = some (r, V') → G 27 V [(0, .ref (ad 0)), (2, .int v2), (3, .int v3), (4, .int v4)] [] := by
    intro n27
    induction n27 with
    | zero => intro V v2 v3 v4 h; rw [f_X9_ring_27] at h; cases h
    | succ n27 ih27 =>
      intro V v2 v3 v4 h
      rw [hG]
      intro H locs ls w hl
      rw [f_X9_ring_27] at h
      refine lv_aload_n hx hb dX9_ring_27 rfl (lv_at hl 0 rfl) ?_
      refine lv_iload_n hx hb dX9_ring_28 rfl (lv_at hl 2 rfl) ?_
      obtain ⟨r24, q25, h⟩ := ob1i h
      refine m_ci (m_rV (As := [.int v3]) (rest := []) X w hl mi_X9_isOnRing ml_X9_382 0 sm_n0 sm_k0 rfl (c_X9_isOnRing l D cy ad A Kc C0 N z V v3 r24 q25) ⟨⟨rfl, rfl, Nat.le_of_ble_eq_true rfl, Nat.le_of_ble_eq_true rfl⟩, Nat.le_of_ble_eq_true rfl, Nat.le_of_ble_eq_true rfl⟩ rfl rfl (Nat.le_of_ble_eq_true rfl) dX9_ring_29) w (fun H locs w => ?_)
      refine lv_if_ne (tgt := 48) hx hb dX9_ring_32 (by decide) (fun c26 => ?_) (fun c26 => ?_)
      · replace h := ifF h c26
        refine lv_iload_n hx hb dX9_ring_48 rfl (lv_at hl 1 rfl) ?_
        refine lv_if_ne (tgt := 55) hx hb dX9_ring_49 (by decide) (fun c27 => ?_) (fun c27 => ?_)
        · replace h := ifF h c27
          refine lv_iload_n hx hb dX9_ring_55 rfl (lv_at hl 2 rfl) ?_
          refine lv_bipush (v := 25) hx hb dX9_ring_56 (by decide) ?_
          refine lv_icmp_ne (tgt := 65) hx hb dX9_ring_58 (by decide) (fun c28 => ?_) (fun c28 => ?_)
          · replace h := ifF h c28
            refine lv_aload_n hx hb dX9_ring_65 rfl (lv_at hl 0 rfl) ?_
            refine lv_iload_n hx hb dX9_ring_66 rfl (lv_at hl 2 rfl) ?_
            obtain ⟨r29, q30, h⟩ := ob1i h
            refine m_ci (m_rV (As := [.int v3]) (rest := []) X w hl mi_X9_ringOf ml_X9_379 0 sm_n0 sm_k0 rfl (c_X9_ringOf l D cy ad A Kc C0 N z V v3 r29 q30) ⟨⟨rfl, rfl, Nat.le_of_ble_eq_true rfl, Nat.le_of_ble_eq_true rfl⟩, Nat.le_of_ble_eq_true rfl, Nat.le_of_ble_eq_true rfl⟩ rfl rfl (Nat.le_of_ble_eq_true rfl) dX9_ring_67) w (fun H locs w => ?_)
            obtain ⟨rfl, rfl⟩ := reti h
            exact m_ri X w hr hlocks dX9_ring_70
          · replace h := ifT h c28
            refine lv_iconst (v := 0) hx hb dX9_ring_61 (by decide) ?_
            refine lv_goto (tgt := 70) hx hb dX9_ring_62 (by decide) ?_
            obtain ⟨rfl, rfl⟩ := reti h
            exact m_ri X w hr hlocks dX9_ring_70
        · replace h := ifT h c27
          refine lv_iload hx hb dX9_ring_52 (lv_at hl 3 rfl) ?_
          obtain ⟨rfl, rfl⟩ := reti h
          exact m_ri X w hr hlocks dX9_ring_54
      · replace h := ifT h c26
        refine lv_aload_n hx hb dX9_ring_35 rfl (lv_at hl 0 rfl) ?_
        refine m_get X w 0 sm_n0 sm_k0 ci9 35 (by decide) (fvR sm_k0 rfl sm_p35) rfl fl_X9_81 dX9_ring_36 ?_
        refine lv_iload_n hx hb dX9_ring_39 rfl (lv_at hl 2 rfl) ?_
        obtain ⟨g31, h⟩ := cki h
        refine m_iald X w 18 sm_n18 sm_k18 sm_z18 g31 dX9_ring_40 ?_
        refine lv_topi (fun x32 ex32 => ?_)
        replace h := bdi h _ ex32
        refine lv_istore_n (lv' := [(3, .int x32), (0, .ref (ad 0)), (2, .int v2), (4, .int v4)]) hx hb dX9_ring_41 rfl hl (by decide) rfl (fun ls hl => ?_)
        obtain ⟨x33, ex33⟩ : ∃ y : Int32, y = v4 + (1 : Int32) := ⟨_, rfl⟩
        replace h := bdi h _ ex33
        refine lv_iinc (v := x33) (lv' := [(4, .int x33), (3, .int x32), (0, .ref (ad 0)), (2, .int v2)]) hx hb dX9_ring_42 hl (k := 3) rfl (by rw [ex33]; rfl) (by decide) rfl (fun ls hl => ?_)
        refine lv_goto (tgt := 27) hx hb dX9_ring_45 (by decide) ?_
        have g := ih27 V v2 x32 x33 h
        rw [hG] at g
        exact g H locs ls w (lv_sub hl [2, 3, 1, 0] rfl)
  rw [f_X9_ring] at h
  refine lv_iload_n hx hb dX9_ring_0 rfl (lv_at hl 1 rfl) ?_
  obtain ⟨r15, q16, h⟩ := ob1i h
  refine m_ci (m_rS (As := [.int a1]) (rest := []) X w hl mi_X9_isCell ml_X9_115 (c_X9_isCell l D cy ad A Kc C0 N z V a1 r15 q16) ⟨⟨rfl, rfl, Nat.le_of_ble_eq_true rfl, Nat.le_of_ble_eq_true rfl⟩, Nat.le_of_ble_eq_true rfl, Nat.le_of_ble_eq_true rfl⟩ rfl rfl (Nat.le_of_ble_eq_true rfl) dX9_ring_1) w (fun H locs w => ?_)
  refine lv_if_eq (tgt := 16) hx hb dX9_ring_4 (by decide) (fun c17 => ?_) (fun c17 => ?_)
  · replace h := ifT h c17
    refine lv_iconst (v := (-1)) hx hb dX9_ring_16 (by decide) ?_
    obtain ⟨rfl, rfl⟩ := reti h
    exact m_ri X w hr hlocks dX9_ring_17
  · replace h := ifF h c17
    refine lv_iload_n hx hb dX9_ring_7 rfl (lv_at hl 2 rfl) ?_
    refine lv_iconst (v := 0) hx hb dX9_ring_8 (by decide) ?_
    refine lv_iconst (v := 1) hx hb dX9_ring_9 (by decide) ?_
    obtain ⟨r18, q19, h⟩ := ob1i h
    refine m_ci (m_rS (As := [.int a2, .int (0 : Int32), .int (1 : Int32)]) (rest := []) X w hl mi_X9_lies ml_X9_18 (c_X9_lies l D cy ad A Kc C0 N z V a2 (0 : Int32) (1 : Int32) r18 q19) ⟨⟨rfl, rfl, Nat.le_of_ble_eq_true rfl, Nat.le_of_ble_eq_true rfl⟩, Nat.le_of_ble_eq_true rfl, Nat.le_of_ble_eq_true rfl⟩ rfl rfl (Nat.le_of_ble_eq_true rfl) dX9_ring_10) w (fun H locs w => ?_)
    refine lv_if_ne (tgt := 18) hx hb dX9_ring_13 (by decide) (fun c20 => ?_) (fun c20 => ?_)
    · replace h := ifF h c20
      refine lv_aload_n hx hb dX9_ring_18 rfl (lv_at hl 0 rfl) ?_
      obtain ⟨V23, q22, h⟩ := obvi h
      refine m_cv (m_rV (As := []) (rest := []) X w hl mi_X9_laysSteps ml_X9_373 0 sm_n0 sm_k0 rfl (c_X9_laysSteps l D cy ad A Kc C0 N z V  V23 q22) ⟨⟨rfl, rfl, Nat.le_of_ble_eq_true rfl, Nat.le_of_ble_eq_true rfl⟩, Nat.le_of_ble_eq_true rfl, Nat.le_of_ble_eq_true rfl⟩ rfl rfl (Nat.le_of_ble_eq_true rfl) dX9_ring_19) w (fun H locs w => ?_)
      refine lv_iload_n hx hb dX9_ring_22 rfl (lv_at hl 1 rfl) ?_
      refine lv_istore_n (lv' := [(3, .int a1), (0, .ref (ad 0)), (1, .int a1), (2, .int a2)]) hx hb dX9_ring_23 rfl hl (by decide) rfl (fun ls hl => ?_)
      refine lv_iconst (v := 0) hx hb dX9_ring_24 (by decide) ?_
      refine lv_istore (lv' := [(4, .int (0 : Int32)), (3, .int a1), (0, .ref (ad 0)), (1, .int a1), (2, .int a2)]) hx hb dX9_ring_25 hl (by decide) rfl (fun ls hl => ?_)
      have g := L27 N V23 a2 a1 (0 : Int32) h
      rw [hG] at g
      exact g H locs ls w (lv_sub hl [2, 4, 1, 0] rfl)
    · replace h := ifT h c20
      refine lv_iconst (v := (-1)) hx hb dX9_ring_16 (by decide) ?_
      obtain ⟨rfl, rfl⟩ := reti h
      exact m_ri X w hr hlocks dX9_ring_17
def f_X9_sources_71 (N : Nat) (K17 : Vt → Int32 → Int32 → Int32 → Option (Int32 × Vt)) (V : Vt) (v1 : Int32) (v3 : Int32) (s0 : Int32) (s1 : Int32) : Option (Int32 × Vt) := bd (s1 ||| s0) (fun x20 => bd (v3 + (1 : Int32)) (fun x21 => K17 V v1 x20 x21))
def f_X9_sources_57 (N : Nat) (K17 : Vt → Int32 → Int32 → Int32 → Option (Int32 × Vt)) (V : Vt) (v1 : Int32) (v2 : Int32) (v3 : Int32) (v4 : Int32) : Option (Int32 × Vt) := if v4 = v1 then f_X9_sources_71 N K17 V v1 v3 ((1 : Int32) <<< (v3 &&& 31)) v2 else f_X9_sources_71 N K17 V v1 v3 (0 : Int32) v2
def f_X9_sources_29 (N : Nat) (K17 : Vt → Int32 → Int32 → Int32 → Option (Int32 × Vt)) : Nat → Vt → Int32 → Int32 → Int32 → Int32 → Int32 → Option (Int32 × Vt)
  | 0, _, _, _, _, _, _ => none
  | n + 1, V, v1, v2, v3, v4, v5 => if (25 : Int32) ≤ v5 then f_X9_sources_57 N K17 V v1 v2 v3 v4 else if v4 = v1 then f_X9_sources_57 N K17 V v1 v2 v3 v4 else ck v4 26 (bd (V.2.1 18 v4.toNatClampNeg) (fun x24 => bd (v5 + (1 : Int32)) (fun x25 => (f_X9_sources_29 N K17 n) V v1 v2 v3 x24 x25)))
def f_X9_sources_17 (N : Nat) : Nat → Vt → Int32 → Int32 → Int32 → Option (Int32 × Vt)
  | 0, _, _, _, _ => none
  | n + 1, V, v1, v2, v3 => if (25 : Int32) ≤ v3 then some (v2, V) else f_X9_sources_29 N (f_X9_sources_17 N n) N V v1 v2 v3 v3 (0 : Int32)
def f_X9_sources (N : Nat) (V : Vt) (a1 : Int32) : Option (Int32 × Vt) := ob1 (f_X9_isCell N a1) (fun r11 => if r11 = 0 then some ((-1 : Int32), V) else obv (f_X9_laysSteps N V) (fun V16 => f_X9_sources_17 N N V16 a1 (0 : Int32) (0 : Int32)))
set_option maxHeartbeats 4000000 in
set_option maxRecDepth 100000 in
theorem c_X9_sources (l : Launch) (D : va_G) (cy : Nat → ClassId) (ad : Nat → Nat) (A : Nat → Prop) (Kc : State → Prop) (C0 : Cx ad A Kc) (N : Nat) (z : Nat) (V : Vt) (a1 : Int32) (r : Int32) (V' : Vt) (h : f_X9_sources N V a1 = some (r, V')) : Met l yX9_sources (mw yX9_sources cX9_sources 6 (some .int)) { frames := 89, cells := 0, slots := 0, locals := 5011 } (PreM D cy ad Kc (SM z) V [.ref (ad 0), .int a1]) (QI D cy ad A r (SM z) V') 0 0 A := by
  refine ct_go C0 (own := RX9) rfl (by decide) rfl ?_
  intro p e s m below meth c ls H locs X hr hlocks hnm hl w
  have hx := X.1.1
  have hb := X.1.2.1
  have hown := X.2.1
  have hts := X.2.2.1
  have hl : lv_has ls 6 [(0, .ref (ad 0)), (1, .int a1)] := hl
  obtain ⟨G, hG⟩ : ∃ G : Nat → Vt → List (Nat × Value) → List Value → Prop, G = fun pc V lv st => ∀ (H : Heap) (locs : List Loc) (ls : Array Slot), Wd D cy ad A s.heap (SM z) V H locs → lv_has ls 6 lv → W p l e { frames := 89, cells := 0, slots := 0, locals := 5011 } s m ([.ref (ad 0), .int a1] : List Value).toArray below meth c H locs 0 0 (MQ below (QI D cy ad A r (SM z) V') ([.ref (ad 0), .int a1] : List Value).toArray s 0 0 A) (F0 m pc ls st) := ⟨_, rfl⟩
  have L17 : ∀ (n17 : Nat) (V : Vt) (v1 : Int32) (v2 : Int32) (v3 : Int32), f_X9_sources_17 N n17 V v1 v2 v3 = some (r, V') → G 17 V [(0, .ref (ad 0)), (1, .int v1), (2, .int v2), (3, .int v3)] [] := by
    intro n17
    induction n17 with
    | zero => intro V v1 v2 v3 h; rw [f_X9_sources_17] at h; cases h
    | succ n17 ih17 =>
      have B71 : ∀ (V : Vt) (v1 : Int32) (v3 : Int32) (s0 : Int32) (s1 : Int32), f_X9_sources_71 N (f_X9_sources_17 N n17) V v1 v3 s0 s1 = some (r, V') → G 71 V [(0, .ref (ad 0)), (1, .int v1), (3, .int v3)] [.int s0, .int s1] := by
        intro V v1 v3 s0 s1 h
        rw [hG]
        intro H locs ls w hl
        rw [f_X9_sources_71] at h
        refine lv_ior hx hb dX9_sources_71 ?_
        refine lv_topi (fun x20 ex20 => ?_)
        replace h := bdi h _ ex20
        refine lv_istore_n (lv' := [(2, .int x20), (0, .ref (ad 0)), (1, .int v1), (3, .int v3)]) hx hb dX9_sources_72 rfl hl (by decide) rfl (fun ls hl => ?_)
        obtain ⟨x21, ex21⟩ : ∃ y : Int32, y = v3 + (1 : Int32) := ⟨_, rfl⟩
        replace h := bdi h _ ex21
        refine lv_iinc (v := x21) (lv' := [(3, .int x21), (2, .int x20), (0, .ref (ad 0)), (1, .int v1)]) hx hb dX9_sources_73 hl (k := 3) rfl (by rw [ex21]; rfl) (by decide) rfl (fun ls hl => ?_)
        refine lv_goto (tgt := 17) hx hb dX9_sources_76 (by decide) ?_
        have g := ih17 V v1 x20 x21 h
        rw [hG] at g
        exact g H locs ls w (lv_sub hl [2, 3, 1, 0] rfl)
      have B57 : ∀ (V : Vt) (v1 : Int32) (v2 : Int32) (v3 : Int32) (v4 : Int32), f_X9_sources_57 N (f_X9_sources_17 N n17) V v1 v2 v3 v4 = some (r, V') → G 57 V [(0, .ref (ad 0)), (1, .int v1), (2, .int v2), (3, .int v3), (4, .int v4)] [] := by
        intro V v1 v2 v3 v4 h
        rw [hG]
        intro H locs ls w hl
        rw [f_X9_sources_57] at h
        refine lv_iload_n hx hb dX9_sources_57 rfl (lv_at hl 2 rfl) ?_
        refine lv_iload hx hb dX9_sources_58 (lv_at hl 4 rfl) ?_
        refine lv_iload_n hx hb dX9_sources_60 rfl (lv_at hl 1 rfl) ?_
        refine lv_icmp_ne (tgt := 70) hx hb dX9_sources_61 (by decide) (fun c19 => ?_) (fun c19 => ?_)
        · replace h := ifF h c19
          refine lv_iconst (v := 0) hx hb dX9_sources_70 (by decide) ?_
          have g := B71 V v1 v3 (0 : Int32) v2 h
          rw [hG] at g
          exact g H locs ls w (lv_sub hl [0, 1, 3] rfl)
        · replace h := ifT h c19
          refine lv_iconst (v := 1) hx hb dX9_sources_64 (by decide) ?_
          refine lv_iload_n hx hb dX9_sources_65 rfl (lv_at hl 3 rfl) ?_
          refine lv_ishl hx hb dX9_sources_66 ?_
          refine lv_goto (tgt := 71) hx hb dX9_sources_67 (by decide) ?_
          have g := B71 V v1 v3 ((1 : Int32) <<< (v3 &&& 31)) v2 h
          rw [hG] at g
          exact g H locs ls w (lv_sub hl [0, 1, 3] rfl)
      have L29 : ∀ (n29 : Nat) (V : Vt) (v1 : Int32) (v2 : Int32) (v3 : Int32) (v4 : Int32) (v5 : Int32), f_X9_sources_29 N (f_X9_sources_17 N n17) n29 V v1 v2 v3 v4 v5 = some (r, V') → G 29 V [(0, .ref (ad 0)), (1, .int v1), (2, .int v2), (3, .int v3), (4, .int v4), (5, .int v5)] [] := by
        intro n29
        induction n29 with
        | zero => intro V v1 v2 v3 v4 v5 h; rw [f_X9_sources_29] at h; cases h
        | succ n29 ih29 =>
          intro V v1 v2 v3 v4 v5 h
          rw [hG]
          intro H locs ls w hl
          rw [f_X9_sources_29] at h
          refine lv_iload hx hb dX9_sources_29 (lv_at hl 5 rfl) ?_
          refine lv_bipush (v := 25) hx hb dX9_sources_31 (by decide) ?_
          refine lv_icmp_ge (tgt := 57) hx hb dX9_sources_33 (by decide) (fun c18 => ?_) (fun c18 => ?_)
          · replace h := ifT h c18
            have g := B57 V v1 v2 v3 v4 h
            rw [hG] at g
            exact g H locs ls w (lv_sub hl [0, 1, 2, 3, 4] rfl)
          · replace h := ifF h c18
            refine lv_iload hx hb dX9_sources_36 (lv_at hl 4 rfl) ?_
            refine lv_iload_n hx hb dX9_sources_38 rfl (lv_at hl 1 rfl) ?_
            refine lv_icmp_eq (tgt := 57) hx hb dX9_sources_39 (by decide) (fun c22 => ?_) (fun c22 => ?_)
            · replace h := ifT h c22
              have g := B57 V v1 v2 v3 v4 h
              rw [hG] at g
              exact g H locs ls w (lv_sub hl [0, 1, 2, 3, 4] rfl)
            · replace h := ifF h c22
              refine lv_aload_n hx hb dX9_sources_42 rfl (lv_at hl 0 rfl) ?_
              refine m_get X w 0 sm_n0 sm_k0 ci9 35 (by decide) (fvR sm_k0 rfl sm_p35) rfl fl_X9_81 dX9_sources_43 ?_
              refine lv_iload hx hb dX9_sources_46 (lv_at hl 4 rfl) ?_
              obtain ⟨g23, h⟩ := cki h
              refine m_iald X w 18 sm_n18 sm_k18 sm_z18 g23 dX9_sources_48 ?_
              refine lv_topi (fun x24 ex24 => ?_)
              replace h := bdi h _ ex24
              refine lv_istore (lv' := [(4, .int x24), (0, .ref (ad 0)), (1, .int v1), (2, .int v2), (3, .int v3), (5, .int v5)]) hx hb dX9_sources_49 hl (by decide) rfl (fun ls hl => ?_)
              obtain ⟨x25, ex25⟩ : ∃ y : Int32, y = v5 + (1 : Int32) := ⟨_, rfl⟩
              replace h := bdi h _ ex25
              refine lv_iinc (v := x25) (lv' := [(5, .int x25), (4, .int x24), (0, .ref (ad 0)), (1, .int v1), (2, .int v2), (3, .int v3)]) hx hb dX9_sources_51 hl (k := 5) rfl (by rw [ex25]; rfl) (by decide) rfl (fun ls hl => ?_)
              refine lv_goto (tgt := 29) hx hb dX9_sources_54 (by decide) ?_
              have g := ih29 V v1 v2 v3 x24 x25 h
              rw [hG] at g
              exact g H locs ls w (lv_sub hl [2, 3, 4, 5, 1, 0] rfl)
      intro V v1 v2 v3 h
      rw [hG]
      intro H locs ls w hl
      rw [f_X9_sources_17] at h
      refine lv_iload_n hx hb dX9_sources_17 rfl (lv_at hl 3 rfl) ?_
      refine lv_bipush (v := 25) hx hb dX9_sources_18 (by decide) ?_
      refine lv_icmp_ge (tgt := 79) hx hb dX9_sources_20 (by decide) (fun c17 => ?_) (fun c17 => ?_)
      · replace h := ifT h c17
        refine lv_iload_n hx hb dX9_sources_79 rfl (lv_at hl 2 rfl) ?_
        obtain ⟨rfl, rfl⟩ := reti h
        exact m_ri X w hr hlocks dX9_sources_80
      · replace h := ifF h c17
        refine lv_iload_n hx hb dX9_sources_23 rfl (lv_at hl 3 rfl) ?_
        refine lv_istore (lv' := [(4, .int v3), (0, .ref (ad 0)), (1, .int v1), (2, .int v2), (3, .int v3)]) hx hb dX9_sources_24 hl (by decide) rfl (fun ls hl => ?_)
        refine lv_iconst (v := 0) hx hb dX9_sources_26 (by decide) ?_
        refine lv_istore (lv' := [(5, .int (0 : Int32)), (4, .int v3), (0, .ref (ad 0)), (1, .int v1), (2, .int v2), (3, .int v3)]) hx hb dX9_sources_27 hl (by decide) rfl (fun ls hl => ?_)
        have g := L29 N V v1 v2 v3 v3 (0 : Int32) h
        rw [hG] at g
        exact g H locs ls w (lv_sub hl [2, 3, 4, 5, 1, 0] rfl)
  rw [f_X9_sources] at h
  refine lv_iload_n hx hb dX9_sources_0 rfl (lv_at hl 1 rfl) ?_
  obtain ⟨r11, q12, h⟩ := ob1i h
  refine m_ci (m_rS (As := [.int a1]) (rest := []) X w hl mi_X9_isCell ml_X9_115 (c_X9_isCell l D cy ad A Kc C0 N z V a1 r11 q12) ⟨⟨rfl, rfl, Nat.le_of_ble_eq_true rfl, Nat.le_of_ble_eq_true rfl⟩, Nat.le_of_ble_eq_true rfl, Nat.le_of_ble_eq_true rfl⟩ rfl rfl (Nat.le_of_ble_eq_true rfl) dX9_sources_1) w (fun H locs w => ?_)
  refine lv_if_ne (tgt := 9) hx hb dX9_sources_4 (by decide) (fun c13 => ?_) (fun c13 => ?_)
  · replace h := ifF h c13
    refine lv_aload_n hx hb dX9_sources_9 rfl (lv_at hl 0 rfl) ?_
    obtain ⟨V16, q15, h⟩ := obvi h
    refine m_cv (m_rV (As := []) (rest := []) X w hl mi_X9_laysSteps ml_X9_373 0 sm_n0 sm_k0 rfl (c_X9_laysSteps l D cy ad A Kc C0 N z V  V16 q15) ⟨⟨rfl, rfl, Nat.le_of_ble_eq_true rfl, Nat.le_of_ble_eq_true rfl⟩, Nat.le_of_ble_eq_true rfl, Nat.le_of_ble_eq_true rfl⟩ rfl rfl (Nat.le_of_ble_eq_true rfl) dX9_sources_10) w (fun H locs w => ?_)
    refine lv_iconst (v := 0) hx hb dX9_sources_13 (by decide) ?_
    refine lv_istore_n (lv' := [(2, .int (0 : Int32)), (0, .ref (ad 0)), (1, .int a1)]) hx hb dX9_sources_14 rfl hl (by decide) rfl (fun ls hl => ?_)
    refine lv_iconst (v := 0) hx hb dX9_sources_15 (by decide) ?_
    refine lv_istore_n (lv' := [(3, .int (0 : Int32)), (2, .int (0 : Int32)), (0, .ref (ad 0)), (1, .int a1)]) hx hb dX9_sources_16 rfl hl (by decide) rfl (fun ls hl => ?_)
    have g := L17 N V16 a1 (0 : Int32) (0 : Int32) h
    rw [hG] at g
    exact g H locs ls w (lv_sub hl [2, 3, 1, 0] rfl)
  · replace h := ifT h c13
    refine lv_iconst (v := (-1)) hx hb dX9_sources_7 (by decide) ?_
    obtain ⟨rfl, rfl⟩ := reti h
    exact m_ri X w hr hlocks dX9_sources_8
def f_X9_casts_41 (N : Nat) (K19 : Vt → Int32 → Int32 → Int32 → Option (Int32 × Vt)) (V : Vt) (v1 : Int32) (v3 : Int32) (s0 : Int32) (s1 : Int32) : Option (Int32 × Vt) := bd (s1 ||| s0) (fun x25 => bd (v3 + (1 : Int32)) (fun x26 => K19 V v1 x25 x26))
def f_X9_casts_19 (N : Nat) : Nat → Vt → Int32 → Int32 → Int32 → Option (Int32 × Vt)
  | 0, _, _, _, _ => none
  | n + 1, V, v1, v2, v3 => if (25 : Int32) ≤ v3 then if v1 = 0 then ob1 (f_X9_ones N v2) (fun r20 => some (r20, V)) else some (v2, V) else ob1 (f_X9_isCast N V v3) (fun r22 => if r22 = 0 then f_X9_casts_41 N (f_X9_casts_19 N n) V v1 v3 (0 : Int32) v2 else f_X9_casts_41 N (f_X9_casts_19 N n) V v1 v3 ((1 : Int32) <<< (v3 &&& 31)) v2)
def f_X9_casts (N : Nat) (V : Vt) (a1 : Int32) : Option (Int32 × Vt) := ob1 (f_X9_lies N a1 (0 : Int32) (1 : Int32)) (fun r12 => if r12 = 0 then some ((-1 : Int32), V) else obv (f_X9_laysSteps N V) (fun V17 => f_X9_casts_19 N N V17 a1 (0 : Int32) (0 : Int32)))
set_option maxHeartbeats 4000000 in
set_option maxRecDepth 100000 in
theorem c_X9_casts (l : Launch) (D : va_G) (cy : Nat → ClassId) (ad : Nat → Nat) (A : Nat → Prop) (Kc : State → Prop) (C0 : Cx ad A Kc) (N : Nat) (z : Nat) (V : Vt) (a1 : Int32) (r : Int32) (V' : Vt) (h : f_X9_casts N V a1 = some (r, V')) : Met l yX9_casts (mw yX9_casts cX9_casts 4 (some .int)) { frames := 89, cells := 0, slots := 0, locals := 5011 } (PreM D cy ad Kc (SM z) V [.ref (ad 0), .int a1]) (QI D cy ad A r (SM z) V') 0 0 A := by
  refine ct_go C0 (own := RX9) rfl (by decide) rfl ?_
  intro p e s m below meth c ls H locs X hr hlocks hnm hl w
  have hx := X.1.1
  have hb := X.1.2.1
  have hown := X.2.1
  have hts := X.2.2.1
  have hl : lv_has ls 4 [(0, .ref (ad 0)), (1, .int a1)] := hl
  obtain ⟨G, hG⟩ : ∃ G : Nat → Vt → List (Nat × Value) → List Value → Prop, G = fun pc V lv st => ∀ (H : Heap) (locs : List Loc) (ls : Array Slot), Wd D cy ad A s.heap (SM z) V H locs → lv_has ls 4 lv → W p l e { frames := 89, cells := 0, slots := 0, locals := 5011 } s m ([.ref (ad 0), .int a1] : List Value).toArray below meth c H locs 0 0 (MQ below (QI D cy ad A r (SM z) V') ([.ref (ad 0), .int a1] : List Value).toArray s 0 0 A) (F0 m pc ls st) := ⟨_, rfl⟩
  have L19 : ∀ (n19 : Nat) (V : Vt) (v1 : Int32) (v2 : Int32) (v3 : Int32), f_X9_casts_19 N n19 V v1 v2 v3 = some (r, V') → G 19 V [(0, .ref (ad 0)), (1, .int v1), (2, .int v2), (3, .int v3)] [] := by
    intro n19
    induction n19 with
    | zero => intro V v1 v2 v3 h; rw [f_X9_casts_19] at h; cases h
    | succ n19 ih19 =>
      have B41 : ∀ (V : Vt) (v1 : Int32) (v3 : Int32) (s0 : Int32) (s1 : Int32), f_X9_casts_41 N (f_X9_casts_19 N n19) V v1 v3 s0 s1 = some (r, V') → G 41 V [(0, .ref (ad 0)), (1, .int v1), (3, .int v3)] [.int s0, .int s1] := by
        intro V v1 v3 s0 s1 h
        rw [hG]
        intro H locs ls w hl
        rw [f_X9_casts_41] at h
        refine lv_ior hx hb dX9_casts_41 ?_
        refine lv_topi (fun x25 ex25 => ?_)
        replace h := bdi h _ ex25
        refine lv_istore_n (lv' := [(2, .int x25), (0, .ref (ad 0)), (1, .int v1), (3, .int v3)]) hx hb dX9_casts_42 rfl hl (by decide) rfl (fun ls hl => ?_)
        obtain ⟨x26, ex26⟩ : ∃ y : Int32, y = v3 + (1 : Int32) := ⟨_, rfl⟩
        replace h := bdi h _ ex26
        refine lv_iinc (v := x26) (lv' := [(3, .int x26), (2, .int x25), (0, .ref (ad 0)), (1, .int v1)]) hx hb dX9_casts_43 hl (k := 3) rfl (by rw [ex26]; rfl) (by decide) rfl (fun ls hl => ?_)
        refine lv_goto (tgt := 19) hx hb dX9_casts_46 (by decide) ?_
        have g := ih19 V v1 x25 x26 h
        rw [hG] at g
        exact g H locs ls w (lv_sub hl [2, 3, 1, 0] rfl)
      intro V v1 v2 v3 h
      rw [hG]
      intro H locs ls w hl
      rw [f_X9_casts_19] at h
      refine lv_iload_n hx hb dX9_casts_19 rfl (lv_at hl 3 rfl) ?_
      refine lv_bipush (v := 25) hx hb dX9_casts_20 (by decide) ?_
      refine lv_icmp_ge (tgt := 49) hx hb dX9_casts_22 (by decide) (fun c18 => ?_) (fun c18 => ?_)
      · replace h := ifT h c18
        refine lv_iload_n hx hb dX9_casts_49 rfl (lv_at hl 1 rfl) ?_
        refine lv_if_ne (tgt := 60) hx hb dX9_casts_50 (by decide) (fun c19 => ?_) (fun c19 => ?_)
        · replace h := ifF h c19
          refine lv_iload_n hx hb dX9_casts_60 rfl (lv_at hl 2 rfl) ?_
          obtain ⟨rfl, rfl⟩ := reti h
          exact m_ri X w hr hlocks dX9_casts_61
        · replace h := ifT h c19
          refine lv_iload_n hx hb dX9_casts_53 rfl (lv_at hl 2 rfl) ?_
          obtain ⟨r20, q21, h⟩ := ob1i h
          refine m_ci (m_rS (As := [.int v2]) (rest := []) X w hl mi_X9_ones ml_X9_349 (c_X9_ones l D cy ad A Kc C0 N z V v2 r20 q21) ⟨⟨rfl, rfl, Nat.le_of_ble_eq_true rfl, Nat.le_of_ble_eq_true rfl⟩, Nat.le_of_ble_eq_true rfl, Nat.le_of_ble_eq_true rfl⟩ rfl rfl (Nat.le_of_ble_eq_true rfl) dX9_casts_54) w (fun H locs w => ?_)
          refine lv_goto (tgt := 61) hx hb dX9_casts_57 (by decide) ?_
          obtain ⟨rfl, rfl⟩ := reti h
          exact m_ri X w hr hlocks dX9_casts_61
      · replace h := ifF h c18
        refine lv_iload_n hx hb dX9_casts_25 rfl (lv_at hl 2 rfl) ?_
        refine lv_aload_n hx hb dX9_casts_26 rfl (lv_at hl 0 rfl) ?_
        refine lv_iload_n hx hb dX9_casts_27 rfl (lv_at hl 3 rfl) ?_
        obtain ⟨r22, q23, h⟩ := ob1i h
        refine m_ci (m_rV (As := [.int v3]) (rest := [.int v2]) X w hl mi_X9_isCast ml_X9_388 0 sm_n0 sm_k0 rfl (c_X9_isCast l D cy ad A Kc C0 N z V v3 r22 q23) ⟨⟨rfl, rfl, Nat.le_of_ble_eq_true rfl, Nat.le_of_ble_eq_true rfl⟩, Nat.le_of_ble_eq_true rfl, Nat.le_of_ble_eq_true rfl⟩ rfl rfl (Nat.le_of_ble_eq_true rfl) dX9_casts_28) w (fun H locs w => ?_)
        refine lv_if_eq (tgt := 40) hx hb dX9_casts_31 (by decide) (fun c24 => ?_) (fun c24 => ?_)
        · replace h := ifT h c24
          refine lv_iconst (v := 0) hx hb dX9_casts_40 (by decide) ?_
          have g := B41 V v1 v3 (0 : Int32) v2 h
          rw [hG] at g
          exact g H locs ls w (lv_sub hl [0, 1, 3] rfl)
        · replace h := ifF h c24
          refine lv_iconst (v := 1) hx hb dX9_casts_34 (by decide) ?_
          refine lv_iload_n hx hb dX9_casts_35 rfl (lv_at hl 3 rfl) ?_
          refine lv_ishl hx hb dX9_casts_36 ?_
          refine lv_goto (tgt := 41) hx hb dX9_casts_37 (by decide) ?_
          have g := B41 V v1 v3 ((1 : Int32) <<< (v3 &&& 31)) v2 h
          rw [hG] at g
          exact g H locs ls w (lv_sub hl [0, 1, 3] rfl)
  rw [f_X9_casts] at h
  refine lv_iload_n hx hb dX9_casts_0 rfl (lv_at hl 1 rfl) ?_
  refine lv_iconst (v := 0) hx hb dX9_casts_1 (by decide) ?_
  refine lv_iconst (v := 1) hx hb dX9_casts_2 (by decide) ?_
  obtain ⟨r12, q13, h⟩ := ob1i h
  refine m_ci (m_rS (As := [.int a1, .int (0 : Int32), .int (1 : Int32)]) (rest := []) X w hl mi_X9_lies ml_X9_18 (c_X9_lies l D cy ad A Kc C0 N z V a1 (0 : Int32) (1 : Int32) r12 q13) ⟨⟨rfl, rfl, Nat.le_of_ble_eq_true rfl, Nat.le_of_ble_eq_true rfl⟩, Nat.le_of_ble_eq_true rfl, Nat.le_of_ble_eq_true rfl⟩ rfl rfl (Nat.le_of_ble_eq_true rfl) dX9_casts_3) w (fun H locs w => ?_)
  refine lv_if_ne (tgt := 11) hx hb dX9_casts_6 (by decide) (fun c14 => ?_) (fun c14 => ?_)
  · replace h := ifF h c14
    refine lv_aload_n hx hb dX9_casts_11 rfl (lv_at hl 0 rfl) ?_
    obtain ⟨V17, q16, h⟩ := obvi h
    refine m_cv (m_rV (As := []) (rest := []) X w hl mi_X9_laysSteps ml_X9_373 0 sm_n0 sm_k0 rfl (c_X9_laysSteps l D cy ad A Kc C0 N z V  V17 q16) ⟨⟨rfl, rfl, Nat.le_of_ble_eq_true rfl, Nat.le_of_ble_eq_true rfl⟩, Nat.le_of_ble_eq_true rfl, Nat.le_of_ble_eq_true rfl⟩ rfl rfl (Nat.le_of_ble_eq_true rfl) dX9_casts_12) w (fun H locs w => ?_)
    refine lv_iconst (v := 0) hx hb dX9_casts_15 (by decide) ?_
    refine lv_istore_n (lv' := [(2, .int (0 : Int32)), (0, .ref (ad 0)), (1, .int a1)]) hx hb dX9_casts_16 rfl hl (by decide) rfl (fun ls hl => ?_)
    refine lv_iconst (v := 0) hx hb dX9_casts_17 (by decide) ?_
    refine lv_istore_n (lv' := [(3, .int (0 : Int32)), (2, .int (0 : Int32)), (0, .ref (ad 0)), (1, .int a1)]) hx hb dX9_casts_18 rfl hl (by decide) rfl (fun ls hl => ?_)
    have g := L19 N V17 a1 (0 : Int32) (0 : Int32) h
    rw [hG] at g
    exact g H locs ls w (lv_sub hl [2, 3, 1, 0] rfl)
  · replace h := ifT h c14
    refine lv_iconst (v := (-1)) hx hb dX9_casts_9 (by decide) ?_
    obtain ⟨rfl, rfl⟩ := reti h
    exact m_ri X w hr hlocks dX9_casts_10
def f_X9_fits_50 (N : Nat) (K12 : Vt → Int32 → Int32 → Int32 → Option (Int32 × Vt)) (V : Vt) (v1 : Int32) (v3 : Int32) (s0 : Int32) (s1 : Int32) : Option (Int32 × Vt) := bd (s1 ||| s0) (fun x29 => bd (v3 + (1 : Int32)) (fun x30 => K12 V v1 x29 x30))
def f_X9_fits_12 (N : Nat) : Nat → Vt → Int32 → Int32 → Int32 → Option (Int32 × Vt)
  | 0, _, _, _, _ => none
  | n + 1, V, v1, v2, v3 => ck (106 : Int32) 5715 (if (V.2.1 2 (106 : Int32).toNatClampNeg) ≤ v3 then ck (107 : Int32) 5715 (bd (sA V 2 (107 : Int32).toNatClampNeg v1) (fun V20 => some (v2, V20))) else ck (107 : Int32) 5715 (bd (sA V 2 (107 : Int32).toNatClampNeg v3) (fun V22 => obv (f_X9_laysSteps N V22) (fun V25 => ob1 (f_X9_isAllSo N V25) (fun r26 => if r26 = 0 then f_X9_fits_50 N (f_X9_fits_12 N n) V25 v1 v3 (0 : Int32) v2 else f_X9_fits_50 N (f_X9_fits_12 N n) V25 v1 v3 ((1 : Int32) <<< (v3 &&& 31)) v2)))))
def f_X9_fits (N : Nat) (V : Vt) : Option (Int32 × Vt) := ck (107 : Int32) 5715 (bd (V.2.1 2 (107 : Int32).toNatClampNeg) (fun x16 => f_X9_fits_12 N N V x16 (0 : Int32) (0 : Int32)))
set_option maxHeartbeats 4000000 in
set_option maxRecDepth 100000 in
theorem c_X9_fits (l : Launch) (D : va_G) (cy : Nat → ClassId) (ad : Nat → Nat) (A : Nat → Prop) (Kc : State → Prop) (C0 : Cx ad A Kc) (N : Nat) (z : Nat) (V : Vt) (r : Int32) (V' : Vt) (h : f_X9_fits N V = some (r, V')) : Met l yX9_fits (mw yX9_fits cX9_fits 4 (some .int)) { frames := 89, cells := 0, slots := 0, locals := 5011 } (PreM D cy ad Kc (SM z) V [.ref (ad 0)]) (QI D cy ad A r (SM z) V') 0 0 A := by
  refine ct_go C0 (own := RX9) rfl (by decide) rfl ?_
  intro p e s m below meth c ls H locs X hr hlocks hnm hl w
  have hx := X.1.1
  have hb := X.1.2.1
  have hown := X.2.1
  have hts := X.2.2.1
  have hl : lv_has ls 4 [(0, .ref (ad 0))] := hl
  obtain ⟨G, hG⟩ : ∃ G : Nat → Vt → List (Nat × Value) → List Value → Prop, G = fun pc V lv st => ∀ (H : Heap) (locs : List Loc) (ls : Array Slot), Wd D cy ad A s.heap (SM z) V H locs → lv_has ls 4 lv → W p l e { frames := 89, cells := 0, slots := 0, locals := 5011 } s m ([.ref (ad 0)] : List Value).toArray below meth c H locs 0 0 (MQ below (QI D cy ad A r (SM z) V') ([.ref (ad 0)] : List Value).toArray s 0 0 A) (F0 m pc ls st) := ⟨_, rfl⟩
  have L12 : ∀ (n12 : Nat) (V : Vt) (v1 : Int32) (v2 : Int32) (v3 : Int32), f_X9_fits_12 N n12 V v1 v2 v3 = some (r, V') → G 12 V [(0, .ref (ad 0)), (1, .int v1), (2, .int v2), (3, .int v3)] [] := by
    intro n12
    induction n12 with
    | zero => intro V v1 v2 v3 h; rw [f_X9_fits_12] at h; cases h
    | succ n12 ih12 =>
      have B50 : ∀ (V : Vt) (v1 : Int32) (v3 : Int32) (s0 : Int32) (s1 : Int32), f_X9_fits_50 N (f_X9_fits_12 N n12) V v1 v3 s0 s1 = some (r, V') → G 50 V [(0, .ref (ad 0)), (1, .int v1), (3, .int v3)] [.int s0, .int s1] := by
        intro V v1 v3 s0 s1 h
        rw [hG]
        intro H locs ls w hl
        rw [f_X9_fits_50] at h
        refine lv_ior hx hb dX9_fits_50 ?_
        refine lv_topi (fun x29 ex29 => ?_)
        replace h := bdi h _ ex29
        refine lv_istore_n (lv' := [(2, .int x29), (0, .ref (ad 0)), (1, .int v1), (3, .int v3)]) hx hb dX9_fits_51 rfl hl (by decide) rfl (fun ls hl => ?_)
        obtain ⟨x30, ex30⟩ : ∃ y : Int32, y = v3 + (1 : Int32) := ⟨_, rfl⟩
        replace h := bdi h _ ex30
        refine lv_iinc (v := x30) (lv' := [(3, .int x30), (2, .int x29), (0, .ref (ad 0)), (1, .int v1)]) hx hb dX9_fits_52 hl (k := 3) rfl (by rw [ex30]; rfl) (by decide) rfl (fun ls hl => ?_)
        refine lv_goto (tgt := 12) hx hb dX9_fits_55 (by decide) ?_
        have g := ih12 V v1 x29 x30 h
        rw [hG] at g
        exact g H locs ls w (lv_sub hl [2, 3, 1, 0] rfl)
      intro V v1 v2 v3 h
      rw [hG]
      intro H locs ls w hl
      rw [f_X9_fits_12] at h
      refine lv_iload_n hx hb dX9_fits_12 rfl (lv_at hl 3 rfl) ?_
      refine lv_aload_n hx hb dX9_fits_13 rfl (lv_at hl 0 rfl) ?_
      refine m_get X w 0 sm_n0 sm_k0 ci9 2 (by decide) (fvR sm_k0 rfl sm_p2) rfl fl_X9_28 dX9_fits_14 ?_
      refine lv_bipush (v := 106) hx hb dX9_fits_17 (by decide) ?_
      obtain ⟨g17, h⟩ := cki h
      refine m_iald X w 2 sm_n2 sm_k2 sm_z2 g17 dX9_fits_19 ?_
      refine lv_icmp_ge (tgt := 58) hx hb dX9_fits_20 (by decide) (fun c18 => ?_) (fun c18 => ?_)
      · replace h := ifT h c18
        refine lv_aload_n hx hb dX9_fits_58 rfl (lv_at hl 0 rfl) ?_
        refine m_get X w 0 sm_n0 sm_k0 ci9 2 (by decide) (fvR sm_k0 rfl sm_p2) rfl fl_X9_28 dX9_fits_59 ?_
        refine lv_bipush (v := 107) hx hb dX9_fits_62 (by decide) ?_
        refine lv_iload_n hx hb dX9_fits_64 rfl (lv_at hl 1 rfl) ?_
        obtain ⟨g19, h⟩ := cki h
        refine m_iast X w 2 sm_n2 sm_k2 sm_z2 g19 dX9_fits_65 (fun V20 H locs eV20 w => ?_)
        replace h := bdi h _ eV20
        refine lv_iload_n hx hb dX9_fits_66 rfl (lv_at hl 2 rfl) ?_
        obtain ⟨rfl, rfl⟩ := reti h
        exact m_ri X w hr hlocks dX9_fits_67
      · replace h := ifF h c18
        refine lv_aload_n hx hb dX9_fits_23 rfl (lv_at hl 0 rfl) ?_
        refine m_get X w 0 sm_n0 sm_k0 ci9 2 (by decide) (fvR sm_k0 rfl sm_p2) rfl fl_X9_28 dX9_fits_24 ?_
        refine lv_bipush (v := 107) hx hb dX9_fits_27 (by decide) ?_
        refine lv_iload_n hx hb dX9_fits_29 rfl (lv_at hl 3 rfl) ?_
        obtain ⟨g21, h⟩ := cki h
        refine m_iast X w 2 sm_n2 sm_k2 sm_z2 g21 dX9_fits_30 (fun V22 H locs eV22 w => ?_)
        replace h := bdi h _ eV22
        refine lv_aload_n hx hb dX9_fits_31 rfl (lv_at hl 0 rfl) ?_
        obtain ⟨V25, q24, h⟩ := obvi h
        refine m_cv (m_rV (As := []) (rest := []) X w hl mi_X9_laysSteps ml_X9_373 0 sm_n0 sm_k0 rfl (c_X9_laysSteps l D cy ad A Kc C0 N z V22  V25 q24) ⟨⟨rfl, rfl, Nat.le_of_ble_eq_true rfl, Nat.le_of_ble_eq_true rfl⟩, Nat.le_of_ble_eq_true rfl, Nat.le_of_ble_eq_true rfl⟩ rfl rfl (Nat.le_of_ble_eq_true rfl) dX9_fits_32) w (fun H locs w => ?_)
        refine lv_iload_n hx hb dX9_fits_35 rfl (lv_at hl 2 rfl) ?_
        refine lv_aload_n hx hb dX9_fits_36 rfl (lv_at hl 0 rfl) ?_
        obtain ⟨r26, q27, h⟩ := ob1i h
        refine m_ci (m_rV (As := []) (rest := [.int v2]) X w hl mi_X9_isAllSo ml_X9_391 0 sm_n0 sm_k0 rfl (c_X9_isAllSo l D cy ad A Kc C0 N z V25  r26 q27) ⟨⟨rfl, rfl, Nat.le_of_ble_eq_true rfl, Nat.le_of_ble_eq_true rfl⟩, Nat.le_of_ble_eq_true rfl, Nat.le_of_ble_eq_true rfl⟩ rfl rfl (Nat.le_of_ble_eq_true rfl) dX9_fits_37) w (fun H locs w => ?_)
        refine lv_if_eq (tgt := 49) hx hb dX9_fits_40 (by decide) (fun c28 => ?_) (fun c28 => ?_)
        · replace h := ifT h c28
          refine lv_iconst (v := 0) hx hb dX9_fits_49 (by decide) ?_
          have g := B50 V25 v1 v3 (0 : Int32) v2 h
          rw [hG] at g
          exact g H locs ls w (lv_sub hl [0, 1, 3] rfl)
        · replace h := ifF h c28
          refine lv_iconst (v := 1) hx hb dX9_fits_43 (by decide) ?_
          refine lv_iload_n hx hb dX9_fits_44 rfl (lv_at hl 3 rfl) ?_
          refine lv_ishl hx hb dX9_fits_45 ?_
          refine lv_goto (tgt := 50) hx hb dX9_fits_46 (by decide) ?_
          have g := B50 V25 v1 v3 ((1 : Int32) <<< (v3 &&& 31)) v2 h
          rw [hG] at g
          exact g H locs ls w (lv_sub hl [0, 1, 3] rfl)
  rw [f_X9_fits] at h
  refine lv_aload_n hx hb dX9_fits_0 rfl (lv_at hl 0 rfl) ?_
  refine m_get X w 0 sm_n0 sm_k0 ci9 2 (by decide) (fvR sm_k0 rfl sm_p2) rfl fl_X9_28 dX9_fits_1 ?_
  refine lv_bipush (v := 107) hx hb dX9_fits_4 (by decide) ?_
  obtain ⟨g15, h⟩ := cki h
  refine m_iald X w 2 sm_n2 sm_k2 sm_z2 g15 dX9_fits_6 ?_
  refine lv_topi (fun x16 ex16 => ?_)
  replace h := bdi h _ ex16
  refine lv_istore_n (lv' := [(1, .int x16), (0, .ref (ad 0))]) hx hb dX9_fits_7 rfl hl (by decide) rfl (fun ls hl => ?_)
  refine lv_iconst (v := 0) hx hb dX9_fits_8 (by decide) ?_
  refine lv_istore_n (lv' := [(2, .int (0 : Int32)), (1, .int x16), (0, .ref (ad 0))]) hx hb dX9_fits_9 rfl hl (by decide) rfl (fun ls hl => ?_)
  refine lv_iconst (v := 0) hx hb dX9_fits_10 (by decide) ?_
  refine lv_istore_n (lv' := [(3, .int (0 : Int32)), (2, .int (0 : Int32)), (1, .int x16), (0, .ref (ad 0))]) hx hb dX9_fits_11 rfl hl (by decide) rfl (fun ls hl => ?_)
  have g := L12 N V x16 (0 : Int32) (0 : Int32) h
  rw [hG] at g
  exact g H locs ls w (lv_sub hl [3, 2, 1, 0] rfl)
def f_X9_laysEnds_36 (N : Nat) (K10 : Vt → Int32 → Int32 → Int32 → Option Vt) : Nat → Vt → Int32 → Int32 → Int32 → Int32 → Option Vt
  | 0, _, _, _, _, _ => none
  | n + 1, V, v1, v2, v3, v4 => if (25 : Int32) ≤ v4 then bd (v3 + (1 : Int32)) (fun x29 => K10 V v1 v2 x29) else ob1 (f_X9_behind N V v4 v1) (fun r30 => ck (((25 : Int32) * v3) + v4) 150 (bd (sA V 19 (((25 : Int32) * v3) + v4).toNatClampNeg r30) (fun V33 => bd (v4 + (1 : Int32)) (fun x34 => (f_X9_laysEnds_36 N K10 n) V33 v1 v2 v3 x34))))
def f_X9_laysEnds_10 (N : Nat) : Nat → Vt → Int32 → Int32 → Int32 → Option Vt
  | 0, _, _, _, _ => none
  | n + 1, V, v1, v2, v3 => ck (106 : Int32) 5715 (if (V.2.1 2 (106 : Int32).toNatClampNeg) ≤ v3 then ck (107 : Int32) 5715 (bd (sA V 2 (107 : Int32).toNatClampNeg v2) (fun V22 => some V22)) else ck (107 : Int32) 5715 (bd (sA V 2 (107 : Int32).toNatClampNeg v3) (fun V24 => obv (f_X9_laysSteps N V24) (fun V27 => f_X9_laysEnds_36 N (f_X9_laysEnds_10 N n) N V27 v1 v2 v3 (0 : Int32)))))
def f_X9_laysEnds (N : Nat) (V : Vt) (a1 : Int32) : Option Vt := ck (107 : Int32) 5715 (bd (V.2.1 2 (107 : Int32).toNatClampNeg) (fun x18 => f_X9_laysEnds_10 N N V a1 x18 (0 : Int32)))
set_option maxHeartbeats 4000000 in
set_option maxRecDepth 100000 in
theorem c_X9_laysEnds (l : Launch) (D : va_G) (cy : Nat → ClassId) (ad : Nat → Nat) (A : Nat → Prop) (Kc : State → Prop) (C0 : Cx ad A Kc) (N : Nat) (z : Nat) (V : Vt) (a1 : Int32) (V' : Vt) (h : f_X9_laysEnds N V a1 = some V') : Met l yX9_laysEnds (mw yX9_laysEnds cX9_laysEnds 5 none) { frames := 89, cells := 0, slots := 0, locals := 5011 } (PreM D cy ad Kc (SM z) V [.ref (ad 0), .int a1]) (QV D cy ad A (SM z) V') 0 0 A := by
  refine ct_go C0 (own := RX9) rfl (by decide) rfl ?_
  intro p e s m below meth c ls H locs X hr hlocks hnm hl w
  have hx := X.1.1
  have hb := X.1.2.1
  have hown := X.2.1
  have hts := X.2.2.1
  have hl : lv_has ls 5 [(0, .ref (ad 0)), (1, .int a1)] := hl
  obtain ⟨G, hG⟩ : ∃ G : Nat → Vt → List (Nat × Value) → List Value → Prop, G = fun pc V lv st => ∀ (H : Heap) (locs : List Loc) (ls : Array Slot), Wd D cy ad A s.heap (SM z) V H locs → lv_has ls 5 lv → W p l e { frames := 89, cells := 0, slots := 0, locals := 5011 } s m ([.ref (ad 0), .int a1] : List Value).toArray below meth c H locs 0 0 (MQ below (QV D cy ad A (SM z) V') ([.ref (ad 0), .int a1] : List Value).toArray s 0 0 A) (F0 m pc ls st) := ⟨_, rfl⟩
  have L10 : ∀ (n10 : Nat) (V : Vt) (v1 : Int32) (v2 : Int32) (v3 : Int32), f_X9_laysEnds_10 N n10 V v1 v2 v3 = some V' → G 10 V [(0, .ref (ad 0)), (1, .int v1), (2, .int v2), (3, .int v3)] [] := by
    intro n10
    induction n10 with
    | zero => intro V v1 v2 v3 h; rw [f_X9_laysEnds_10] at h; cases h
    | succ n10 ih10 =>
      have L36 : ∀ (n36 : Nat) (V : Vt) (v1 : Int32) (v2 : Int32) (v3 : Int32) (v4 : Int32), f_X9_laysEnds_36 N (f_X9_laysEnds_10 N n10) n36 V v1 v2 v3 v4 = some V' → G 36 V [(0, .ref (ad 0)), (1, .int v1), (2, .int v2), (3, .int v3), (4, .int v4)] [] := by
        intro n36
        induction n36 with
        | zero => intro V v1 v2 v3 v4 h; rw [f_X9_laysEnds_36] at h; cases h
        | succ n36 ih36 =>
          intro V v1 v2 v3 v4 h
          rw [hG]
          intro H locs ls w hl
          rw [f_X9_laysEnds_36] at h
          refine lv_iload hx hb dX9_laysEnds_36 (lv_at hl 4 rfl) ?_
          refine lv_bipush (v := 25) hx hb dX9_laysEnds_38 (by decide) ?_
          refine lv_icmp_ge (tgt := 68) hx hb dX9_laysEnds_40 (by decide) (fun c28 => ?_) (fun c28 => ?_)
          · replace h := ifT h c28
            obtain ⟨x29, ex29⟩ : ∃ y : Int32, y = v3 + (1 : Int32) := ⟨_, rfl⟩
            replace h := bdi h _ ex29
            refine lv_iinc (v := x29) (lv' := [(3, .int x29), (0, .ref (ad 0)), (1, .int v1), (2, .int v2), (4, .int v4)]) hx hb dX9_laysEnds_68 hl (k := 3) rfl (by rw [ex29]; rfl) (by decide) rfl (fun ls hl => ?_)
            refine lv_goto (tgt := 10) hx hb dX9_laysEnds_71 (by decide) ?_
            have g := ih10 V v1 v2 x29 h
            rw [hG] at g
            exact g H locs ls w (lv_sub hl [1, 2, 3, 0] rfl)
          · replace h := ifF h c28
            refine lv_aload_n hx hb dX9_laysEnds_43 rfl (lv_at hl 0 rfl) ?_
            refine m_get X w 0 sm_n0 sm_k0 ci9 36 (by decide) (fvR sm_k0 rfl sm_p36) rfl fl_X9_84 dX9_laysEnds_44 ?_
            refine lv_bipush (v := 25) hx hb dX9_laysEnds_47 (by decide) ?_
            refine lv_iload_n hx hb dX9_laysEnds_49 rfl (lv_at hl 3 rfl) ?_
            refine lv_imul hx hb dX9_laysEnds_50 ?_
            refine lv_iload hx hb dX9_laysEnds_51 (lv_at hl 4 rfl) ?_
            refine lv_iadd hx hb dX9_laysEnds_53 ?_
            refine lv_aload_n hx hb dX9_laysEnds_54 rfl (lv_at hl 0 rfl) ?_
            refine lv_iload hx hb dX9_laysEnds_55 (lv_at hl 4 rfl) ?_
            refine lv_iload_n hx hb dX9_laysEnds_57 rfl (lv_at hl 1 rfl) ?_
            obtain ⟨r30, q31, h⟩ := ob1i h
            refine m_ci (m_rV (As := [.int v4, .int v1]) (rest := [.int (((25 : Int32) * v3) + v4), .ref (ad 19)]) X w hl mi_X9_behind ml_X9_376 0 sm_n0 sm_k0 rfl (c_X9_behind l D cy ad A Kc C0 N z V v4 v1 r30 q31) ⟨⟨rfl, rfl, Nat.le_of_ble_eq_true rfl, Nat.le_of_ble_eq_true rfl⟩, Nat.le_of_ble_eq_true rfl, Nat.le_of_ble_eq_true rfl⟩ rfl rfl (Nat.le_of_ble_eq_true rfl) dX9_laysEnds_58) w (fun H locs w => ?_)
            obtain ⟨g32, h⟩ := cki h
            refine m_iast X w 19 sm_n19 sm_k19 sm_z19 g32 dX9_laysEnds_61 (fun V33 H locs eV33 w => ?_)
            replace h := bdi h _ eV33
            obtain ⟨x34, ex34⟩ : ∃ y : Int32, y = v4 + (1 : Int32) := ⟨_, rfl⟩
            replace h := bdi h _ ex34
            refine lv_iinc (v := x34) (lv' := [(4, .int x34), (0, .ref (ad 0)), (1, .int v1), (2, .int v2), (3, .int v3)]) hx hb dX9_laysEnds_62 hl (k := 4) rfl (by rw [ex34]; rfl) (by decide) rfl (fun ls hl => ?_)
            refine lv_goto (tgt := 36) hx hb dX9_laysEnds_65 (by decide) ?_
            have g := ih36 V33 v1 v2 v3 x34 h
            rw [hG] at g
            exact g H locs ls w (lv_sub hl [1, 2, 3, 4, 0] rfl)
      intro V v1 v2 v3 h
      rw [hG]
      intro H locs ls w hl
      rw [f_X9_laysEnds_10] at h
      refine lv_iload_n hx hb dX9_laysEnds_10 rfl (lv_at hl 3 rfl) ?_
      refine lv_aload_n hx hb dX9_laysEnds_11 rfl (lv_at hl 0 rfl) ?_
      refine m_get X w 0 sm_n0 sm_k0 ci9 2 (by decide) (fvR sm_k0 rfl sm_p2) rfl fl_X9_28 dX9_laysEnds_12 ?_
      refine lv_bipush (v := 106) hx hb dX9_laysEnds_15 (by decide) ?_
      obtain ⟨g19, h⟩ := cki h
      refine m_iald X w 2 sm_n2 sm_k2 sm_z2 g19 dX9_laysEnds_17 ?_
      refine lv_icmp_ge (tgt := 74) hx hb dX9_laysEnds_18 (by decide) (fun c20 => ?_) (fun c20 => ?_)
      · replace h := ifT h c20
        refine lv_aload_n hx hb dX9_laysEnds_74 rfl (lv_at hl 0 rfl) ?_
        refine m_get X w 0 sm_n0 sm_k0 ci9 2 (by decide) (fvR sm_k0 rfl sm_p2) rfl fl_X9_28 dX9_laysEnds_75 ?_
        refine lv_bipush (v := 107) hx hb dX9_laysEnds_78 (by decide) ?_
        refine lv_iload_n hx hb dX9_laysEnds_80 rfl (lv_at hl 2 rfl) ?_
        obtain ⟨g21, h⟩ := cki h
        refine m_iast X w 2 sm_n2 sm_k2 sm_z2 g21 dX9_laysEnds_81 (fun V22 H locs eV22 w => ?_)
        replace h := bdi h _ eV22
        obtain rfl := Option.some.inj h
        exact m_rv X w hr hlocks dX9_laysEnds_82
      · replace h := ifF h c20
        refine lv_aload_n hx hb dX9_laysEnds_21 rfl (lv_at hl 0 rfl) ?_
        refine m_get X w 0 sm_n0 sm_k0 ci9 2 (by decide) (fvR sm_k0 rfl sm_p2) rfl fl_X9_28 dX9_laysEnds_22 ?_
        refine lv_bipush (v := 107) hx hb dX9_laysEnds_25 (by decide) ?_
        refine lv_iload_n hx hb dX9_laysEnds_27 rfl (lv_at hl 3 rfl) ?_
        obtain ⟨g23, h⟩ := cki h
        refine m_iast X w 2 sm_n2 sm_k2 sm_z2 g23 dX9_laysEnds_28 (fun V24 H locs eV24 w => ?_)
        replace h := bdi h _ eV24
        refine lv_aload_n hx hb dX9_laysEnds_29 rfl (lv_at hl 0 rfl) ?_
        obtain ⟨V27, q26, h⟩ := obvi h
        refine m_cv (m_rV (As := []) (rest := []) X w hl mi_X9_laysSteps ml_X9_373 0 sm_n0 sm_k0 rfl (c_X9_laysSteps l D cy ad A Kc C0 N z V24  V27 q26) ⟨⟨rfl, rfl, Nat.le_of_ble_eq_true rfl, Nat.le_of_ble_eq_true rfl⟩, Nat.le_of_ble_eq_true rfl, Nat.le_of_ble_eq_true rfl⟩ rfl rfl (Nat.le_of_ble_eq_true rfl) dX9_laysEnds_30) w (fun H locs w => ?_)
        refine lv_iconst (v := 0) hx hb dX9_laysEnds_33 (by decide) ?_
        refine lv_istore (lv' := [(4, .int (0 : Int32)), (0, .ref (ad 0)), (1, .int v1), (2, .int v2), (3, .int v3)]) hx hb dX9_laysEnds_34 hl (by decide) rfl (fun ls hl => ?_)
        have g := L36 N V27 v1 v2 v3 (0 : Int32) h
        rw [hG] at g
        exact g H locs ls w (lv_sub hl [1, 2, 3, 4, 0] rfl)
  rw [f_X9_laysEnds] at h
  refine lv_aload_n hx hb dX9_laysEnds_0 rfl (lv_at hl 0 rfl) ?_
  refine m_get X w 0 sm_n0 sm_k0 ci9 2 (by decide) (fvR sm_k0 rfl sm_p2) rfl fl_X9_28 dX9_laysEnds_1 ?_
  refine lv_bipush (v := 107) hx hb dX9_laysEnds_4 (by decide) ?_
  obtain ⟨g17, h⟩ := cki h
  refine m_iald X w 2 sm_n2 sm_k2 sm_z2 g17 dX9_laysEnds_6 ?_
  refine lv_topi (fun x18 ex18 => ?_)
  replace h := bdi h _ ex18
  refine lv_istore_n (lv' := [(2, .int x18), (0, .ref (ad 0)), (1, .int a1)]) hx hb dX9_laysEnds_7 rfl hl (by decide) rfl (fun ls hl => ?_)
  refine lv_iconst (v := 0) hx hb dX9_laysEnds_8 (by decide) ?_
  refine lv_istore_n (lv' := [(3, .int (0 : Int32)), (2, .int x18), (0, .ref (ad 0)), (1, .int a1)]) hx hb dX9_laysEnds_9 rfl hl (by decide) rfl (fun ls hl => ?_)
  have g := L10 N V a1 x18 (0 : Int32) h
  rw [hG] at g
  exact g H locs ls w (lv_sub hl [2, 3, 1, 0] rfl)
def f_X9_obeys_87 (N : Nat) (V : Vt) (v1 : Int32) (v2 : Int32) : Option (Int32 × Vt) := ob (f_X9_takesKept N V v1 v2) (fun r38 V40 => if 0 ≤ r38 then bd (sF V40 0 28 r38) (fun V42 => some (r38, V42)) else bd (sF V40 0 28 (V40.1 0 28)) (fun V43 => some (r38, V43)))
def f_X9_obeys (N : Nat) (V : Vt) : Option (Int32 × Vt) := ck (0 : Int32) 3 (ob1 (f_X9_small N (V.2.2.1 23 (0 : Int32).toNatClampNeg)) (fun r24 => ck (1 : Int32) 3 (ob1 (f_X9_small N (V.2.2.1 23 (1 : Int32).toNatClampNeg)) (fun r27 => bd (V.1 0 43) (fun x29 => if x29 = (24 : Int32) then ck (2 : Int32) 3 (ob1 (f_X9_small N (V.2.2.1 23 (2 : Int32).toNatClampNeg)) (fun r32 => ob (f_X9_shiftsKept N V r24 r27 r32) (fun r34 V36 => some (r34, V36)))) else if x29 = (25 : Int32) then f_X9_obeys_87 N V r24 r27 else if x29 = (26 : Int32) then f_X9_obeys_87 N V r24 r27 else if x29 = (27 : Int32) then ob (f_X9_fencesKept N V r24) (fun r46 V48 => some (r46, V48)) else if x29 = (28 : Int32) then ob (f_X9_passesKept N V) (fun r50 V52 => some (r50, V52)) else f_X9_obeys_87 N V r24 r27)))))
set_option maxHeartbeats 4000000 in
set_option maxRecDepth 100000 in
theorem c_X9_obeys (l : Launch) (D : va_G) (cy : Nat → ClassId) (ad : Nat → Nat) (A : Nat → Prop) (Kc : State → Prop) (C0 : Cx ad A Kc) (N : Nat) (z : Nat) (V : Vt) (r : Int32) (V' : Vt) (h : f_X9_obeys N V = some (r, V')) : Met l yX9_obeys (mw yX9_obeys cX9_obeys 4 (some .int)) { frames := 89, cells := 0, slots := 0, locals := 5013 } (PreM D cy ad Kc (SM z) V [.ref (ad 0)]) (QI D cy ad A r (SM z) V') 0 0 A := by
  refine ct_go C0 (own := RX9) rfl (by decide) rfl ?_
  intro p e s m below meth c ls H locs X hr hlocks hnm hl w
  have hx := X.1.1
  have hb := X.1.2.1
  have hown := X.2.1
  have hts := X.2.2.1
  have hl : lv_has ls 4 [(0, .ref (ad 0))] := hl
  obtain ⟨G, hG⟩ : ∃ G : Nat → Vt → List (Nat × Value) → List Value → Prop, G = fun pc V lv st => ∀ (H : Heap) (locs : List Loc) (ls : Array Slot), Wd D cy ad A s.heap (SM z) V H locs → lv_has ls 4 lv → W p l e { frames := 89, cells := 0, slots := 0, locals := 5013 } s m ([.ref (ad 0)] : List Value).toArray below meth c H locs 0 0 (MQ below (QI D cy ad A r (SM z) V') ([.ref (ad 0)] : List Value).toArray s 0 0 A) (F0 m pc ls st) := ⟨_, rfl⟩
  have B87 : ∀ (V : Vt) (v1 : Int32) (v2 : Int32), f_X9_obeys_87 N V v1 v2 = some (r, V') → G 87 V [(0, .ref (ad 0)), (1, .int v1), (2, .int v2)] [] := by
    intro V v1 v2 h
    rw [hG]
    intro H locs ls w hl
    rw [f_X9_obeys_87] at h
    refine lv_aload_n hx hb dX9_obeys_87 rfl (lv_at hl 0 rfl) ?_
    refine lv_iload_n hx hb dX9_obeys_88 rfl (lv_at hl 1 rfl) ?_
    refine lv_iload_n hx hb dX9_obeys_89 rfl (lv_at hl 2 rfl) ?_
    obtain ⟨r38, V40, q39, h⟩ := obi h
    refine m_ci (m_rV (As := [.int v1, .int v2]) (rest := []) X w hl mi_X9_takesKept ml_X9_332 0 sm_n0 sm_k0 rfl (c_X9_takesKept l D cy ad A Kc C0 N z V v1 v2 r38 V40 q39) ⟨⟨rfl, rfl, Nat.le_of_ble_eq_true rfl, Nat.le_of_ble_eq_true rfl⟩, Nat.le_of_ble_eq_true rfl, Nat.le_of_ble_eq_true rfl⟩ rfl rfl (Nat.le_of_ble_eq_true rfl) dX9_obeys_90) w (fun H locs w => ?_)
    refine lv_istore_n (lv' := [(3, .int r38), (0, .ref (ad 0)), (1, .int v1), (2, .int v2)]) hx hb dX9_obeys_93 rfl hl (by decide) rfl (fun ls hl => ?_)
    refine lv_aload_n hx hb dX9_obeys_94 rfl (lv_at hl 1 rfl) ?_
    refine lv_iload_n hx hb dX9_obeys_95 rfl (lv_at hl 0 rfl) ?_
    refine lv_if_ge (tgt := 106) hx hb dX9_obeys_96 (by decide) (fun c41 => ?_) (fun c41 => ?_)
    · replace h := ifT h c41
      refine lv_iload_n hx hb dX9_obeys_106 rfl (lv_at hl 0 rfl) ?_
      refine m_put X w 0 sm_n0 sm_k0 ci9 28 (by decide) rfl rfl rfl rfl rfl fl_X9_297 dX9_obeys_107 (fun V42 H locs eV42 w => ?_)
      replace h := bdi h _ eV42
      refine lv_iload_n hx hb dX9_obeys_110 rfl (lv_at hl 0 rfl) ?_
      obtain ⟨rfl, rfl⟩ := reti h
      exact m_ri X w hr hlocks dX9_obeys_111
    · replace h := ifF h c41
      refine lv_aload_n hx hb dX9_obeys_99 rfl (lv_at hl 1 rfl) ?_
      refine m_get X w 0 sm_n0 sm_k0 ci9 28 (by decide) (fvI sm_k0 rfl) rfl fl_X9_297 dX9_obeys_100 ?_
      refine lv_goto (tgt := 107) hx hb dX9_obeys_103 (by decide) ?_
      refine m_put X w 0 sm_n0 sm_k0 ci9 28 (by decide) rfl rfl rfl rfl rfl fl_X9_297 dX9_obeys_107 (fun V43 H locs eV43 w => ?_)
      replace h := bdi h _ eV43
      refine lv_iload_n hx hb dX9_obeys_110 rfl (lv_at hl 0 rfl) ?_
      obtain ⟨rfl, rfl⟩ := reti h
      exact m_ri X w hr hlocks dX9_obeys_111
  rw [f_X9_obeys] at h
  refine lv_aload_n hx hb dX9_obeys_0 rfl (lv_at hl 0 rfl) ?_
  refine m_get X w 0 sm_n0 sm_k0 ci9 46 (by decide) (fvR sm_k0 rfl sm_p46) rfl fl_X9_100 dX9_obeys_1 ?_
  refine lv_iconst (v := 0) hx hb dX9_obeys_4 (by decide) ?_
  obtain ⟨g23, h⟩ := cki h
  refine m_lald X w 23 sm_n23 sm_k23 sm_z23 g23 dX9_obeys_5 ?_
  obtain ⟨r24, q25, h⟩ := ob1i h
  refine m_ci (m_rS (As := [.long (V.2.2.1 23 (0 : Int32).toNatClampNeg)]) (rest := []) X w hl mi_X9_small ml_X9_444 (c_X9_small l D cy ad A Kc C0 N z V (V.2.2.1 23 (0 : Int32).toNatClampNeg) r24 q25) ⟨⟨rfl, rfl, Nat.le_of_ble_eq_true rfl, Nat.le_of_ble_eq_true rfl⟩, Nat.le_of_ble_eq_true rfl, Nat.le_of_ble_eq_true rfl⟩ rfl rfl (Nat.le_of_ble_eq_true rfl) dX9_obeys_6) w (fun H locs w => ?_)
  refine lv_istore_n (lv' := [(1, .int r24), (0, .ref (ad 0))]) hx hb dX9_obeys_9 rfl hl (by decide) rfl (fun ls hl => ?_)
  refine lv_aload_n hx hb dX9_obeys_10 rfl (lv_at hl 1 rfl) ?_
  refine m_get X w 0 sm_n0 sm_k0 ci9 46 (by decide) (fvR sm_k0 rfl sm_p46) rfl fl_X9_100 dX9_obeys_11 ?_
  refine lv_iconst (v := 1) hx hb dX9_obeys_14 (by decide) ?_
  obtain ⟨g26, h⟩ := cki h
  refine m_lald X w 23 sm_n23 sm_k23 sm_z23 g26 dX9_obeys_15 ?_
  obtain ⟨r27, q28, h⟩ := ob1i h
  refine m_ci (m_rS (As := [.long (V.2.2.1 23 (1 : Int32).toNatClampNeg)]) (rest := []) X w hl mi_X9_small ml_X9_444 (c_X9_small l D cy ad A Kc C0 N z V (V.2.2.1 23 (1 : Int32).toNatClampNeg) r27 q28) ⟨⟨rfl, rfl, Nat.le_of_ble_eq_true rfl, Nat.le_of_ble_eq_true rfl⟩, Nat.le_of_ble_eq_true rfl, Nat.le_of_ble_eq_true rfl⟩ rfl rfl (Nat.le_of_ble_eq_true rfl) dX9_obeys_16) w (fun H locs w => ?_)
  refine lv_istore_n (lv' := [(2, .int r27), (1, .int r24), (0, .ref (ad 0))]) hx hb dX9_obeys_19 rfl hl (by decide) rfl (fun ls hl => ?_)
  refine lv_aload_n hx hb dX9_obeys_20 rfl (lv_at hl 2 rfl) ?_
  refine m_get X w 0 sm_n0 sm_k0 ci9 43 (by decide) (fvI sm_k0 rfl) rfl fl_X9_430 dX9_obeys_21 ?_
  refine lv_topi (fun x29 ex29 => ?_)
  replace h := bdi h _ ex29
  rcases Decidable.em (x29 = (24 : Int32)) with c30 | c30
  · replace h := ifT h c30
    refine lv_tableIn (tgt := 60) hx hb dX9_obeys_24 (by rw [c30]; decide) (by rw [c30]; decide) (by rw [c30]; rfl) (by decide) ?_
    refine lv_aload_n hx hb dX9_obeys_60 rfl (lv_at hl 2 rfl) ?_
    refine lv_iload_n hx hb dX9_obeys_61 rfl (lv_at hl 1 rfl) ?_
    refine lv_iload_n hx hb dX9_obeys_62 rfl (lv_at hl 0 rfl) ?_
    refine lv_aload_n hx hb dX9_obeys_63 rfl (lv_at hl 2 rfl) ?_
    refine m_get X w 0 sm_n0 sm_k0 ci9 46 (by decide) (fvR sm_k0 rfl sm_p46) rfl fl_X9_100 dX9_obeys_64 ?_
    refine lv_iconst (v := 2) hx hb dX9_obeys_67 (by decide) ?_
    obtain ⟨g31, h⟩ := cki h
    refine m_lald X w 23 sm_n23 sm_k23 sm_z23 g31 dX9_obeys_68 ?_
    obtain ⟨r32, q33, h⟩ := ob1i h
    refine m_ci (m_rS (As := [.long (V.2.2.1 23 (2 : Int32).toNatClampNeg)]) (rest := [.int r27, .int r24, .ref (ad 0)]) X w hl mi_X9_small ml_X9_444 (c_X9_small l D cy ad A Kc C0 N z V (V.2.2.1 23 (2 : Int32).toNatClampNeg) r32 q33) ⟨⟨rfl, rfl, Nat.le_of_ble_eq_true rfl, Nat.le_of_ble_eq_true rfl⟩, Nat.le_of_ble_eq_true rfl, Nat.le_of_ble_eq_true rfl⟩ rfl rfl (Nat.le_of_ble_eq_true rfl) dX9_obeys_69) w (fun H locs w => ?_)
    obtain ⟨r34, V36, q35, h⟩ := obi h
    refine m_ci (m_rV (As := [.int r24, .int r27, .int r32]) (rest := []) X w hl mi_X9_shiftsKept ml_X9_338 0 sm_n0 sm_k0 rfl (c_X9_shiftsKept l D cy ad A Kc C0 N z V r24 r27 r32 r34 V36 q35) ⟨⟨rfl, rfl, Nat.le_of_ble_eq_true rfl, Nat.le_of_ble_eq_true rfl⟩, Nat.le_of_ble_eq_true rfl, Nat.le_of_ble_eq_true rfl⟩ rfl rfl (Nat.le_of_ble_eq_true rfl) dX9_obeys_72) w (fun H locs w => ?_)
    obtain ⟨rfl, rfl⟩ := reti h
    exact m_ri X w hr hlocks dX9_obeys_75
  · replace h := ifF h c30
    rcases Decidable.em (x29 = (25 : Int32)) with c37 | c37
    · replace h := ifT h c37
      refine lv_tableIn (tgt := 87) hx hb dX9_obeys_24 (by rw [c37]; decide) (by rw [c37]; decide) (by rw [c37]; rfl) (by decide) ?_
      have g := B87 V r24 r27 h
      rw [hG] at g
      exact g H locs ls w (lv_sub hl [2, 1, 0] rfl)
    · replace h := ifF h c37
      rcases Decidable.em (x29 = (26 : Int32)) with c44 | c44
      · replace h := ifT h c44
        refine lv_tableIn (tgt := 87) hx hb dX9_obeys_24 (by rw [c44]; decide) (by rw [c44]; decide) (by rw [c44]; rfl) (by decide) ?_
        have g := B87 V r24 r27 h
        rw [hG] at g
        exact g H locs ls w (lv_sub hl [2, 1, 0] rfl)
      · replace h := ifF h c44
        rcases Decidable.em (x29 = (27 : Int32)) with c45 | c45
        · replace h := ifT h c45
          refine lv_tableIn (tgt := 76) hx hb dX9_obeys_24 (by rw [c45]; decide) (by rw [c45]; decide) (by rw [c45]; rfl) (by decide) ?_
          refine lv_aload_n hx hb dX9_obeys_76 rfl (lv_at hl 2 rfl) ?_
          refine lv_iload_n hx hb dX9_obeys_77 rfl (lv_at hl 1 rfl) ?_
          obtain ⟨r46, V48, q47, h⟩ := obi h
          refine m_ci (m_rV (As := [.int r24]) (rest := []) X w hl mi_X9_fencesKept ml_X9_342 0 sm_n0 sm_k0 rfl (c_X9_fencesKept l D cy ad A Kc C0 N z V r24 r46 V48 q47) ⟨⟨rfl, rfl, Nat.le_of_ble_eq_true rfl, Nat.le_of_ble_eq_true rfl⟩, Nat.le_of_ble_eq_true rfl, Nat.le_of_ble_eq_true rfl⟩ rfl rfl (Nat.le_of_ble_eq_true rfl) dX9_obeys_78) w (fun H locs w => ?_)
          obtain ⟨rfl, rfl⟩ := reti h
          exact m_ri X w hr hlocks dX9_obeys_81
        · replace h := ifF h c45
          rcases Decidable.em (x29 = (28 : Int32)) with c49 | c49
          · replace h := ifT h c49
            refine lv_tableIn (tgt := 82) hx hb dX9_obeys_24 (by rw [c49]; decide) (by rw [c49]; decide) (by rw [c49]; rfl) (by decide) ?_
            refine lv_aload_n hx hb dX9_obeys_82 rfl (lv_at hl 2 rfl) ?_
            obtain ⟨r50, V52, q51, h⟩ := obi h
            refine m_ci (m_rV (As := []) (rest := []) X w hl mi_X9_passesKept ml_X9_345 0 sm_n0 sm_k0 rfl (c_X9_passesKept l D cy ad A Kc C0 N z V  r50 V52 q51) ⟨⟨rfl, rfl, Nat.le_of_ble_eq_true rfl, Nat.le_of_ble_eq_true rfl⟩, Nat.le_of_ble_eq_true rfl, Nat.le_of_ble_eq_true rfl⟩ rfl rfl (Nat.le_of_ble_eq_true rfl) dX9_obeys_83) w (fun H locs w => ?_)
            obtain ⟨rfl, rfl⟩ := reti h
            exact m_ri X w hr hlocks dX9_obeys_86
          · replace h := ifF h c49
            refine lv_tableOut (tgt := 87) hx hb dX9_obeys_24 (sw_out [(24 : Int32), (25 : Int32), (26 : Int32), (27 : Int32), (28 : Int32)] (by decide) (by intro q hq; simp only [List.mem_cons, List.not_mem_nil, or_false] at hq; rcases hq with rfl | rfl | rfl | rfl | rfl <;> assumption)) (by decide) ?_
            have g := B87 V r24 r27 h
            rw [hG] at g
            exact g H locs ls w (lv_sub hl [2, 1, 0] rfl)
def f_X9_weeks_20 (N : Nat) (V : Vt) : Option (Int32 × Vt) := ob (f_X9_refuses N V (-1 : Int32)) (fun r37 V39 => some (r37, V39))
def f_X9_weeks_104 (N : Nat) : Nat → Vt → Int32 → Int32 → Option (Int32 × Vt)
  | 0, _, _, _ => none
  | n + 1, V, v3, v4 => if (32 : Int32) ≤ v4 then obv (f_X9_takesBack N V (0 : Int32)) (fun V55 => ob (f_X9_good N V55 v3) (fun r56 V58 => some (r56, V58))) else ck v4 5715 (ck v4 32 (bd (sA V 24 v4.toNatClampNeg (V.2.1 2 v4.toNatClampNeg)) (fun V61 => bd (v4 + (1 : Int32)) (fun x62 => (f_X9_weeks_104 N n) V61 v3 x62))))
def f_X9_weeks_101 (N : Nat) (V : Vt) (v3 : Int32) : Option (Int32 × Vt) := f_X9_weeks_104 N N V v3 (0 : Int32)
def f_X9_weeks_69 (N : Nat) : Nat → Vt → Int32 → Int32 → Int32 → Option (Int32 × Vt)
  | 0, _, _, _, _ => none
  | n + 1, V, v2, v3, v4 => if v2 ≤ v4 then f_X9_weeks_101 N V v3 else ck (31 : Int32) 5715 (if (999 : Int32) ≤ (V.2.1 2 (31 : Int32).toNatClampNeg) then f_X9_weeks_101 N V v3 else ob (f_X9_dayIsDrawn N V) (fun r65 V67 => bd (v3 + r65) (fun x68 => bd (v4 + (1 : Int32)) (fun x69 => (f_X9_weeks_69 N n) V67 v2 x68 x69))))
def f_X9_weeks (N : Nat) (V : Vt) (a1 : Int32) (a2 : Int32) : Option (Int32 × Vt) := ob1 (f_X9_lies N a1 (0 : Int32) (1000000 : Int32)) (fun r34 => if r34 = 0 then f_X9_weeks_20 N V  else ob1 (f_X9_lies N a2 (1 : Int32) (60 : Int32)) (fun r40 => if r40 = 0 then f_X9_weeks_20 N V  else ck (103 : Int32) 5715 (if (V.2.1 2 (103 : Int32).toNatClampNeg) = 0 then ob (f_X9_refuses N V (-3 : Int32)) (fun r70 V72 => some (r70, V72)) else bd (sF V 0 49 a1) (fun V45 => ck (103 : Int32) 5715 (bd (sF V45 0 48 (V45.2.1 2 (103 : Int32).toNatClampNeg)) (fun V47 => obv (f_X9_laysAside N V47 (0 : Int32)) (fun V50 => f_X9_weeks_69 N N V50 a2 (0 : Int32) (0 : Int32))))))))
set_option maxHeartbeats 4000000 in
set_option maxRecDepth 100000 in
theorem c_X9_weeks (l : Launch) (D : va_G) (cy : Nat → ClassId) (ad : Nat → Nat) (A : Nat → Prop) (Kc : State → Prop) (C0 : Cx ad A Kc) (N : Nat) (z : Nat) (V : Vt) (a1 : Int32) (a2 : Int32) (r : Int32) (V' : Vt) (h : f_X9_weeks N V a1 a2 = some (r, V')) : Met l yX9_weeks (mw yX9_weeks cX9_weeks 5 (some .int)) { frames := 89, cells := 0, slots := 0, locals := 5013 } (PreM D cy ad Kc (SM z) V [.ref (ad 0), .int a1, .int a2]) (QI D cy ad A r (SM z) V') 0 0 A := by
  refine ct_go C0 (own := RX9) rfl (by decide) rfl ?_
  intro p e s m below meth c ls H locs X hr hlocks hnm hl w
  have hx := X.1.1
  have hb := X.1.2.1
  have hown := X.2.1
  have hts := X.2.2.1
  have hl : lv_has ls 5 [(0, .ref (ad 0)), (1, .int a1), (2, .int a2)] := hl
  obtain ⟨G, hG⟩ : ∃ G : Nat → Vt → List (Nat × Value) → List Value → Prop, G = fun pc V lv st => ∀ (H : Heap) (locs : List Loc) (ls : Array Slot), Wd D cy ad A s.heap (SM z) V H locs → lv_has ls 5 lv → W p l e { frames := 89, cells := 0, slots := 0, locals := 5013 } s m ([.ref (ad 0), .int a1, .int a2] : List Value).toArray below meth c H locs 0 0 (MQ below (QI D cy ad A r (SM z) V') ([.ref (ad 0), .int a1, .int a2] : List Value).toArray s 0 0 A) (F0 m pc ls st) := ⟨_, rfl⟩
  have B20 : ∀ (V : Vt), f_X9_weeks_20 N V  = some (r, V') → G 20 V [(0, .ref (ad 0))] [] := by
    intro V  h
    rw [hG]
    intro H locs ls w hl
    rw [f_X9_weeks_20] at h
    refine lv_aload_n hx hb dX9_weeks_20 rfl (lv_at hl 0 rfl) ?_
    refine lv_iconst (v := (-1)) hx hb dX9_weeks_21 (by decide) ?_
    obtain ⟨r37, V39, q38, h⟩ := obi h
    refine m_ci (m_rV (As := [.int (-1 : Int32)]) (rest := []) X w hl mi_X9_refuses ml_X9_109 0 sm_n0 sm_k0 rfl (c_X9_refuses l D cy ad A Kc C0 N z V (-1 : Int32) r37 V39 q38) ⟨⟨rfl, rfl, Nat.le_of_ble_eq_true rfl, Nat.le_of_ble_eq_true rfl⟩, Nat.le_of_ble_eq_true rfl, Nat.le_of_ble_eq_true rfl⟩ rfl rfl (Nat.le_of_ble_eq_true rfl) dX9_weeks_22) w (fun H locs w => ?_)
    obtain ⟨rfl, rfl⟩ := reti h
    exact m_ri X w hr hlocks dX9_weeks_25
  have L104 : ∀ (n104 : Nat) (V : Vt) (v3 : Int32) (v4 : Int32), f_X9_weeks_104 N n104 V v3 v4 = some (r, V') → G 104 V [(0, .ref (ad 0)), (3, .int v3), (4, .int v4)] [] := by
    intro n104
    induction n104 with
    | zero => intro V v3 v4 h; rw [f_X9_weeks_104] at h; cases h
    | succ n104 ih104 =>
      intro V v3 v4 h
      rw [hG]
      intro H locs ls w hl
      rw [f_X9_weeks_104] at h
      refine lv_iload hx hb dX9_weeks_104 (lv_at hl 2 rfl) ?_
      refine lv_bipush (v := 32) hx hb dX9_weeks_106 (by decide) ?_
      refine lv_icmp_ge (tgt := 131) hx hb dX9_weeks_108 (by decide) (fun c52 => ?_) (fun c52 => ?_)
      · replace h := ifT h c52
        refine lv_aload_n hx hb dX9_weeks_131 rfl (lv_at hl 0 rfl) ?_
        refine lv_iconst (v := 0) hx hb dX9_weeks_132 (by decide) ?_
        obtain ⟨V55, q54, h⟩ := obvi h
        refine m_cv (m_rV (As := [.int (0 : Int32)]) (rest := []) X w hl mi_X9_takesBack ml_X9_427 0 sm_n0 sm_k0 rfl (c_X9_takesBack l D cy ad A Kc C0 N z V (0 : Int32) V55 q54) ⟨⟨rfl, rfl, Nat.le_of_ble_eq_true rfl, Nat.le_of_ble_eq_true rfl⟩, Nat.le_of_ble_eq_true rfl, Nat.le_of_ble_eq_true rfl⟩ rfl rfl (Nat.le_of_ble_eq_true rfl) dX9_weeks_133) w (fun H locs w => ?_)
        refine lv_aload_n hx hb dX9_weeks_136 rfl (lv_at hl 0 rfl) ?_
        refine lv_iload_n hx hb dX9_weeks_137 rfl (lv_at hl 1 rfl) ?_
        obtain ⟨r56, V58, q57, h⟩ := obi h
        refine m_ci (m_rV (As := [.int v3]) (rest := []) X w hl mi_X9_good ml_X9_14 0 sm_n0 sm_k0 rfl (c_X9_good l D cy ad A Kc C0 N z V55 v3 r56 V58 q57) ⟨⟨rfl, rfl, Nat.le_of_ble_eq_true rfl, Nat.le_of_ble_eq_true rfl⟩, Nat.le_of_ble_eq_true rfl, Nat.le_of_ble_eq_true rfl⟩ rfl rfl (Nat.le_of_ble_eq_true rfl) dX9_weeks_138) w (fun H locs w => ?_)
        obtain ⟨rfl, rfl⟩ := reti h
        exact m_ri X w hr hlocks dX9_weeks_141
      · replace h := ifF h c52
        refine lv_aload_n hx hb dX9_weeks_111 rfl (lv_at hl 0 rfl) ?_
        refine m_get X w 0 sm_n0 sm_k0 ci9 47 (by decide) (fvR sm_k0 rfl sm_p47) rfl fl_X9_103 dX9_weeks_112 ?_
        refine lv_iload hx hb dX9_weeks_115 (lv_at hl 2 rfl) ?_
        refine lv_aload_n hx hb dX9_weeks_117 rfl (lv_at hl 0 rfl) ?_
        refine m_get X w 0 sm_n0 sm_k0 ci9 2 (by decide) (fvR sm_k0 rfl sm_p2) rfl fl_X9_28 dX9_weeks_118 ?_
        refine lv_iload hx hb dX9_weeks_121 (lv_at hl 2 rfl) ?_
        obtain ⟨g59, h⟩ := cki h
        refine m_iald X w 2 sm_n2 sm_k2 sm_z2 g59 dX9_weeks_123 ?_
        obtain ⟨g60, h⟩ := cki h
        refine m_iast X w 24 sm_n24 sm_k24 sm_z24 g60 dX9_weeks_124 (fun V61 H locs eV61 w => ?_)
        replace h := bdi h _ eV61
        obtain ⟨x62, ex62⟩ : ∃ y : Int32, y = v4 + (1 : Int32) := ⟨_, rfl⟩
        replace h := bdi h _ ex62
        refine lv_iinc (v := x62) (lv' := [(4, .int x62), (0, .ref (ad 0)), (3, .int v3)]) hx hb dX9_weeks_125 hl (k := 2) rfl (by rw [ex62]; rfl) (by decide) rfl (fun ls hl => ?_)
        refine lv_goto (tgt := 104) hx hb dX9_weeks_128 (by decide) ?_
        have g := ih104 V61 v3 x62 h
        rw [hG] at g
        exact g H locs ls w (lv_sub hl [1, 2, 0] rfl)
  have B101 : ∀ (V : Vt) (v3 : Int32), f_X9_weeks_101 N V v3 = some (r, V') → G 101 V [(0, .ref (ad 0)), (3, .int v3)] [] := by
    intro V v3 h
    rw [hG]
    intro H locs ls w hl
    rw [f_X9_weeks_101] at h
    refine lv_iconst (v := 0) hx hb dX9_weeks_101 (by decide) ?_
    refine lv_istore (lv' := [(4, .int (0 : Int32)), (0, .ref (ad 0)), (3, .int v3)]) hx hb dX9_weeks_102 hl (by decide) rfl (fun ls hl => ?_)
    have g := L104 N V v3 (0 : Int32) h
    rw [hG] at g
    exact g H locs ls w (lv_sub hl [1, 2, 0] rfl)
  have L69 : ∀ (n69 : Nat) (V : Vt) (v2 : Int32) (v3 : Int32) (v4 : Int32), f_X9_weeks_69 N n69 V v2 v3 v4 = some (r, V') → G 69 V [(0, .ref (ad 0)), (2, .int v2), (3, .int v3), (4, .int v4)] [] := by
    intro n69
    induction n69 with
    | zero => intro V v2 v3 v4 h; rw [f_X9_weeks_69] at h; cases h
    | succ n69 ih69 =>
      intro V v2 v3 v4 h
      rw [hG]
      intro H locs ls w hl
      rw [f_X9_weeks_69] at h
      refine lv_iload hx hb dX9_weeks_69 (lv_at hl 3 rfl) ?_
      refine lv_iload_n hx hb dX9_weeks_71 rfl (lv_at hl 1 rfl) ?_
      refine lv_icmp_ge (tgt := 101) hx hb dX9_weeks_72 (by decide) (fun c51 => ?_) (fun c51 => ?_)
      · replace h := ifT h c51
        have g := B101 V v3 h
        rw [hG] at g
        exact g H locs ls w (lv_sub hl [0, 2] rfl)
      · replace h := ifF h c51
        refine lv_aload_n hx hb dX9_weeks_75 rfl (lv_at hl 0 rfl) ?_
        refine m_get X w 0 sm_n0 sm_k0 ci9 2 (by decide) (fvR sm_k0 rfl sm_p2) rfl fl_X9_28 dX9_weeks_76 ?_
        refine lv_bipush (v := 31) hx hb dX9_weeks_79 (by decide) ?_
        obtain ⟨g63, h⟩ := cki h
        refine m_iald X w 2 sm_n2 sm_k2 sm_z2 g63 dX9_weeks_81 ?_
        refine lv_sipush (v := 999) hx hb dX9_weeks_82 (by decide) ?_
        refine lv_icmp_ge (tgt := 101) hx hb dX9_weeks_85 (by decide) (fun c64 => ?_) (fun c64 => ?_)
        · replace h := ifT h c64
          have g := B101 V v3 h
          rw [hG] at g
          exact g H locs ls w (lv_sub hl [0, 2] rfl)
        · replace h := ifF h c64
          refine lv_iload_n hx hb dX9_weeks_88 rfl (lv_at hl 2 rfl) ?_
          refine lv_aload_n hx hb dX9_weeks_89 rfl (lv_at hl 0 rfl) ?_
          obtain ⟨r65, V67, q66, h⟩ := obi h
          refine m_ci (m_rV (As := []) (rest := [.int v3]) X w hl mi_X9_dayIsDrawn ml_X9_467 0 sm_n0 sm_k0 rfl (c_X9_dayIsDrawn l D cy ad A Kc C0 N z V  r65 V67 q66) ⟨⟨rfl, rfl, Nat.le_of_ble_eq_true rfl, Nat.le_of_ble_eq_true rfl⟩, Nat.le_of_ble_eq_true rfl, Nat.le_of_ble_eq_true rfl⟩ rfl rfl (Nat.le_of_ble_eq_true rfl) dX9_weeks_90) w (fun H locs w => ?_)
          refine lv_iadd hx hb dX9_weeks_93 ?_
          refine lv_topi (fun x68 ex68 => ?_)
          replace h := bdi h _ ex68
          refine lv_istore_n (lv' := [(3, .int x68), (0, .ref (ad 0)), (2, .int v2), (4, .int v4)]) hx hb dX9_weeks_94 rfl hl (by decide) rfl (fun ls hl => ?_)
          obtain ⟨x69, ex69⟩ : ∃ y : Int32, y = v4 + (1 : Int32) := ⟨_, rfl⟩
          replace h := bdi h _ ex69
          refine lv_iinc (v := x69) (lv' := [(4, .int x69), (3, .int x68), (0, .ref (ad 0)), (2, .int v2)]) hx hb dX9_weeks_95 hl (k := 3) rfl (by rw [ex69]; rfl) (by decide) rfl (fun ls hl => ?_)
          refine lv_goto (tgt := 69) hx hb dX9_weeks_98 (by decide) ?_
          have g := ih69 V67 v2 x68 x69 h
          rw [hG] at g
          exact g H locs ls w (lv_sub hl [2, 3, 1, 0] rfl)
  rw [f_X9_weeks] at h
  refine lv_iload_n hx hb dX9_weeks_0 rfl (lv_at hl 1 rfl) ?_
  refine lv_iconst (v := 0) hx hb dX9_weeks_1 (by decide) ?_
  refine lv_ldc (v := 1000000) hx hb hown (hts _ kc_X9_170) dX9_weeks_2 ?_
  obtain ⟨r34, q35, h⟩ := ob1i h
  refine m_ci (m_rS (As := [.int a1, .int (0 : Int32), .int (1000000 : Int32)]) (rest := []) X w hl mi_X9_lies ml_X9_18 (c_X9_lies l D cy ad A Kc C0 N z V a1 (0 : Int32) (1000000 : Int32) r34 q35) ⟨⟨rfl, rfl, Nat.le_of_ble_eq_true rfl, Nat.le_of_ble_eq_true rfl⟩, Nat.le_of_ble_eq_true rfl, Nat.le_of_ble_eq_true rfl⟩ rfl rfl (Nat.le_of_ble_eq_true rfl) dX9_weeks_4) w (fun H locs w => ?_)
  refine lv_if_eq (tgt := 20) hx hb dX9_weeks_7 (by decide) (fun c36 => ?_) (fun c36 => ?_)
  · replace h := ifT h c36
    have g := B20 V  h
    rw [hG] at g
    exact g H locs ls w (lv_sub hl [0] rfl)
  · replace h := ifF h c36
    refine lv_iload_n hx hb dX9_weeks_10 rfl (lv_at hl 2 rfl) ?_
    refine lv_iconst (v := 1) hx hb dX9_weeks_11 (by decide) ?_
    refine lv_bipush (v := 60) hx hb dX9_weeks_12 (by decide) ?_
    obtain ⟨r40, q41, h⟩ := ob1i h
    refine m_ci (m_rS (As := [.int a2, .int (1 : Int32), .int (60 : Int32)]) (rest := []) X w hl mi_X9_lies ml_X9_18 (c_X9_lies l D cy ad A Kc C0 N z V a2 (1 : Int32) (60 : Int32) r40 q41) ⟨⟨rfl, rfl, Nat.le_of_ble_eq_true rfl, Nat.le_of_ble_eq_true rfl⟩, Nat.le_of_ble_eq_true rfl, Nat.le_of_ble_eq_true rfl⟩ rfl rfl (Nat.le_of_ble_eq_true rfl) dX9_weeks_14) w (fun H locs w => ?_)
    refine lv_if_ne (tgt := 26) hx hb dX9_weeks_17 (by decide) (fun c42 => ?_) (fun c42 => ?_)
    · replace h := ifF h c42
      refine lv_aload_n hx hb dX9_weeks_26 rfl (lv_at hl 0 rfl) ?_
      refine m_get X w 0 sm_n0 sm_k0 ci9 2 (by decide) (fvR sm_k0 rfl sm_p2) rfl fl_X9_28 dX9_weeks_27 ?_
      refine lv_bipush (v := 103) hx hb dX9_weeks_30 (by decide) ?_
      obtain ⟨g43, h⟩ := cki h
      refine m_iald X w 2 sm_n2 sm_k2 sm_z2 g43 dX9_weeks_32 ?_
      refine lv_if_ne (tgt := 43) hx hb dX9_weeks_33 (by decide) (fun c44 => ?_) (fun c44 => ?_)
      · replace h := ifF h c44
        refine lv_aload_n hx hb dX9_weeks_43 rfl (lv_at hl 0 rfl) ?_
        refine lv_iload_n hx hb dX9_weeks_44 rfl (lv_at hl 1 rfl) ?_
        refine m_put X w 0 sm_n0 sm_k0 ci9 49 (by decide) rfl rfl rfl rfl rfl fl_X9_457 dX9_weeks_45 (fun V45 H locs eV45 w => ?_)
        replace h := bdi h _ eV45
        refine lv_aload_n hx hb dX9_weeks_48 rfl (lv_at hl 0 rfl) ?_
        refine lv_aload_n hx hb dX9_weeks_49 rfl (lv_at hl 0 rfl) ?_
        refine m_get X w 0 sm_n0 sm_k0 ci9 2 (by decide) (fvR sm_k0 rfl sm_p2) rfl fl_X9_28 dX9_weeks_50 ?_
        refine lv_bipush (v := 103) hx hb dX9_weeks_53 (by decide) ?_
        obtain ⟨g46, h⟩ := cki h
        refine m_iald X w 2 sm_n2 sm_k2 sm_z2 g46 dX9_weeks_55 ?_
        refine m_put X w 0 sm_n0 sm_k0 ci9 48 (by decide) rfl rfl rfl rfl rfl fl_X9_106 dX9_weeks_56 (fun V47 H locs eV47 w => ?_)
        replace h := bdi h _ eV47
        refine lv_aload_n hx hb dX9_weeks_59 rfl (lv_at hl 0 rfl) ?_
        refine lv_iconst (v := 0) hx hb dX9_weeks_60 (by decide) ?_
        obtain ⟨V50, q49, h⟩ := obvi h
        refine m_cv (m_rV (As := [.int (0 : Int32)]) (rest := []) X w hl mi_X9_laysAside ml_X9_418 0 sm_n0 sm_k0 rfl (c_X9_laysAside l D cy ad A Kc C0 N z V47 (0 : Int32) V50 q49) ⟨⟨rfl, rfl, Nat.le_of_ble_eq_true rfl, Nat.le_of_ble_eq_true rfl⟩, Nat.le_of_ble_eq_true rfl, Nat.le_of_ble_eq_true rfl⟩ rfl rfl (Nat.le_of_ble_eq_true rfl) dX9_weeks_61) w (fun H locs w => ?_)
        refine lv_iconst (v := 0) hx hb dX9_weeks_64 (by decide) ?_
        refine lv_istore_n (lv' := [(3, .int (0 : Int32)), (0, .ref (ad 0)), (1, .int a1), (2, .int a2)]) hx hb dX9_weeks_65 rfl hl (by decide) rfl (fun ls hl => ?_)
        refine lv_iconst (v := 0) hx hb dX9_weeks_66 (by decide) ?_
        refine lv_istore (lv' := [(4, .int (0 : Int32)), (3, .int (0 : Int32)), (0, .ref (ad 0)), (1, .int a1), (2, .int a2)]) hx hb dX9_weeks_67 hl (by decide) rfl (fun ls hl => ?_)
        have g := L69 N V50 a2 (0 : Int32) (0 : Int32) h
        rw [hG] at g
        exact g H locs ls w (lv_sub hl [2, 4, 1, 0] rfl)
      · replace h := ifT h c44
        refine lv_aload_n hx hb dX9_weeks_36 rfl (lv_at hl 0 rfl) ?_
        refine lv_bipush (v := (-3)) hx hb dX9_weeks_37 (by decide) ?_
        obtain ⟨r70, V72, q71, h⟩ := obi h
        refine m_ci (m_rV (As := [.int (-3 : Int32)]) (rest := []) X w hl mi_X9_refuses ml_X9_109 0 sm_n0 sm_k0 rfl (c_X9_refuses l D cy ad A Kc C0 N z V (-3 : Int32) r70 V72 q71) ⟨⟨rfl, rfl, Nat.le_of_ble_eq_true rfl, Nat.le_of_ble_eq_true rfl⟩, Nat.le_of_ble_eq_true rfl, Nat.le_of_ble_eq_true rfl⟩ rfl rfl (Nat.le_of_ble_eq_true rfl) dX9_weeks_39) w (fun H locs w => ?_)
        obtain ⟨rfl, rfl⟩ := reti h
        exact m_ri X w hr hlocks dX9_weeks_42
    · replace h := ifT h c42
      have g := B20 V  h
      rw [hG] at g
      exact g H locs ls w (lv_sub hl [0] rfl)
def f_X9_next_81 (N : Nat) (K47 : Vt → Int32 → Int32 → Int32 → Int32 → Int32 → Option (Int32 × Vt)) (V : Vt) (v2 : Int32) (v3 : Int32) (v4 : Int32) (v5 : Int32) (v6 : Int32) : Option (Int32 × Vt) := bd (v6 + (1 : Int32)) (fun x34 => K47 V v2 v3 v4 v5 x34)
def f_X9_next_47 (N : Nat) : Nat → Vt → Int32 → Int32 → Int32 → Int32 → Int32 → Option (Int32 × Vt)
  | 0, _, _, _, _, _, _ => none
  | n + 1, V, v2, v3, v4, v5, v6 => if (25 : Int32) ≤ v6 then if v2 = 0 then some (v4, V) else some (v5, V) else ob (f_X9_mostAlike N V v3 v6) (fun r30 V32 => if r30 < v5 then f_X9_next_81 N (f_X9_next_47 N n) V32 v2 v3 v6 r30 v6 else f_X9_next_81 N (f_X9_next_47 N n) V32 v2 v3 v4 v5 v6)
def f_X9_next (N : Nat) (V : Vt) (a1 : Int32) (a2 : Int32) : Option (Int32 × Vt) := ob1 (f_X9_lies N a1 (0 : Int32) (99 : Int32)) (fun r15 => if r15 = 0 then some ((-1 : Int32), V) else ob1 (f_X9_lies N a2 (0 : Int32) (1 : Int32)) (fun r18 => if r18 = 0 then some ((-1 : Int32), V) else ob (f_X9_fits N V) (fun r21 V23 => if r21 = 0 then some ((-1 : Int32), V23) else obv (f_X9_laysEnds N V23 a1) (fun V27 => f_X9_next_47 N N V27 a2 r21 (-1 : Int32) (1000000 : Int32) (0 : Int32)))))
set_option maxHeartbeats 4000000 in
set_option maxRecDepth 100000 in
theorem c_X9_next (l : Launch) (D : va_G) (cy : Nat → ClassId) (ad : Nat → Nat) (A : Nat → Prop) (Kc : State → Prop) (C0 : Cx ad A Kc) (N : Nat) (z : Nat) (V : Vt) (a1 : Int32) (a2 : Int32) (r : Int32) (V' : Vt) (h : f_X9_next N V a1 a2 = some (r, V')) : Met l yX9_next (mw yX9_next cX9_next 8 (some .int)) { frames := 90, cells := 0, slots := 0, locals := 5035 } (PreM D cy ad Kc (SM z) V [.ref (ad 0), .int a1, .int a2]) (QI D cy ad A r (SM z) V') 0 0 A := by
  refine ct_go C0 (own := RX9) rfl (by decide) rfl ?_
  intro p e s m below meth c ls H locs X hr hlocks hnm hl w
  have hx := X.1.1
  have hb := X.1.2.1
  have hown := X.2.1
  have hts := X.2.2.1
  have hl : lv_has ls 8 [(0, .ref (ad 0)), (1, .int a1), (2, .int a2)] := hl
  obtain ⟨G, hG⟩ : ∃ G : Nat → Vt → List (Nat × Value) → List Value → Prop, G = fun pc V lv st => ∀ (H : Heap) (locs : List Loc) (ls : Array Slot), Wd D cy ad A s.heap (SM z) V H locs → lv_has ls 8 lv → W p l e { frames := 90, cells := 0, slots := 0, locals := 5035 } s m ([.ref (ad 0), .int a1, .int a2] : List Value).toArray below meth c H locs 0 0 (MQ below (QI D cy ad A r (SM z) V') ([.ref (ad 0), .int a1, .int a2] : List Value).toArray s 0 0 A) (F0 m pc ls st) := ⟨_, rfl⟩
  have L47 : ∀ (n47 : Nat) (V : Vt) (v2 : Int32) (v3 : Int32) (v4 : Int32) (v5 : Int32) (v6 : Int32), f_X9_next_47 N n47 V v2 v3 v4 v5 v6 = some (r, V') → G 47 V [(0, .ref (ad 0)), (2, .int v2), (3, .int v3), (4, .int v4), (5, .int v5), (6, .int v6)] [] := by
    intro n47
    induction n47 with
    | zero => intro V v2 v3 v4 v5 v6 h; rw [f_X9_next_47] at h; cases h
    | succ n47 ih47 =>
      have B81 : ∀ (V : Vt) (v2 : Int32) (v3 : Int32) (v4 : Int32) (v5 : Int32) (v6 : Int32), f_X9_next_81 N (f_X9_next_47 N n47) V v2 v3 v4 v5 v6 = some (r, V') → G 81 V [(0, .ref (ad 0)), (2, .int v2), (3, .int v3), (4, .int v4), (5, .int v5), (6, .int v6)] [] := by
        intro V v2 v3 v4 v5 v6 h
        rw [hG]
        intro H locs ls w hl
        rw [f_X9_next_81] at h
        obtain ⟨x34, ex34⟩ : ∃ y : Int32, y = v6 + (1 : Int32) := ⟨_, rfl⟩
        replace h := bdi h _ ex34
        refine lv_iinc (v := x34) (lv' := [(6, .int x34), (0, .ref (ad 0)), (2, .int v2), (3, .int v3), (4, .int v4), (5, .int v5)]) hx hb dX9_next_81 hl (k := 5) rfl (by rw [ex34]; rfl) (by decide) rfl (fun ls hl => ?_)
        refine lv_goto (tgt := 47) hx hb dX9_next_84 (by decide) ?_
        have g := ih47 V v2 v3 v4 v5 x34 h
        rw [hG] at g
        exact g H locs ls w (lv_sub hl [1, 2, 3, 4, 5, 0] rfl)
      intro V v2 v3 v4 v5 v6 h
      rw [hG]
      intro H locs ls w hl
      rw [f_X9_next_47] at h
      refine lv_iload hx hb dX9_next_47 (lv_at hl 5 rfl) ?_
      refine lv_bipush (v := 25) hx hb dX9_next_49 (by decide) ?_
      refine lv_icmp_ge (tgt := 87) hx hb dX9_next_51 (by decide) (fun c28 => ?_) (fun c28 => ?_)
      · replace h := ifT h c28
        refine lv_iload_n hx hb dX9_next_87 rfl (lv_at hl 1 rfl) ?_
        refine lv_if_ne (tgt := 96) hx hb dX9_next_88 (by decide) (fun c29 => ?_) (fun c29 => ?_)
        · replace h := ifF h c29
          refine lv_iload hx hb dX9_next_96 (lv_at hl 4 rfl) ?_
          obtain ⟨rfl, rfl⟩ := reti h
          exact m_ri X w hr hlocks dX9_next_98
        · replace h := ifT h c29
          refine lv_iload hx hb dX9_next_91 (lv_at hl 3 rfl) ?_
          refine lv_goto (tgt := 98) hx hb dX9_next_93 (by decide) ?_
          obtain ⟨rfl, rfl⟩ := reti h
          exact m_ri X w hr hlocks dX9_next_98
      · replace h := ifF h c28
        refine lv_aload_n hx hb dX9_next_54 rfl (lv_at hl 0 rfl) ?_
        refine lv_iload_n hx hb dX9_next_55 rfl (lv_at hl 2 rfl) ?_
        refine lv_iload hx hb dX9_next_56 (lv_at hl 5 rfl) ?_
        obtain ⟨r30, V32, q31, h⟩ := obi h
        refine m_ci (m_rV (As := [.int v3, .int v6]) (rest := []) X w hl mi_X9_mostAlike ml_X9_403 0 sm_n0 sm_k0 rfl (c_X9_mostAlike l D cy ad A Kc C0 N z V v3 v6 r30 V32 q31) ⟨⟨rfl, rfl, Nat.le_of_ble_eq_true rfl, Nat.le_of_ble_eq_true rfl⟩, Nat.le_of_ble_eq_true rfl, Nat.le_of_ble_eq_true rfl⟩ rfl rfl (Nat.le_of_ble_eq_true rfl) dX9_next_58) w (fun H locs w => ?_)
        refine lv_istore (lv' := [(7, .int r30), (0, .ref (ad 0)), (2, .int v2), (3, .int v3), (4, .int v4), (5, .int v5), (6, .int v6)]) hx hb dX9_next_61 hl (by decide) rfl (fun ls hl => ?_)
        refine lv_iload hx hb dX9_next_63 (lv_at hl 0 rfl) ?_
        refine lv_iload hx hb dX9_next_65 (lv_at hl 5 rfl) ?_
        refine lv_icmp_lt (tgt := 73) hx hb dX9_next_67 (by decide) (fun c33 => ?_) (fun c33 => ?_)
        · replace h := ifT h c33
          refine lv_iload hx hb dX9_next_73 (lv_at hl 0 rfl) ?_
          refine lv_istore (lv' := [(5, .int r30), (7, .int r30), (0, .ref (ad 0)), (2, .int v2), (3, .int v3), (4, .int v4), (6, .int v6)]) hx hb dX9_next_75 hl (by decide) rfl (fun ls hl => ?_)
          refine lv_iload hx hb dX9_next_77 (lv_at hl 6 rfl) ?_
          refine lv_istore (lv' := [(4, .int v6), (5, .int r30), (7, .int r30), (0, .ref (ad 0)), (2, .int v2), (3, .int v3), (6, .int v6)]) hx hb dX9_next_79 hl (by decide) rfl (fun ls hl => ?_)
          have g := B81 V32 v2 v3 v6 r30 v6 h
          rw [hG] at g
          exact g H locs ls w (lv_sub hl [3, 4, 5, 0, 1, 6] rfl)
        · replace h := ifF h c33
          refine lv_goto (tgt := 81) hx hb dX9_next_70 (by decide) ?_
          have g := B81 V32 v2 v3 v4 v5 v6 h
          rw [hG] at g
          exact g H locs ls w (lv_sub hl [1, 2, 3, 4, 5, 6] rfl)
  rw [f_X9_next] at h
  refine lv_iload_n hx hb dX9_next_0 rfl (lv_at hl 1 rfl) ?_
  refine lv_iconst (v := 0) hx hb dX9_next_1 (by decide) ?_
  refine lv_bipush (v := 99) hx hb dX9_next_2 (by decide) ?_
  obtain ⟨r15, q16, h⟩ := ob1i h
  refine m_ci (m_rS (As := [.int a1, .int (0 : Int32), .int (99 : Int32)]) (rest := []) X w hl mi_X9_lies ml_X9_18 (c_X9_lies l D cy ad A Kc C0 N z V a1 (0 : Int32) (99 : Int32) r15 q16) ⟨⟨rfl, rfl, Nat.le_of_ble_eq_true rfl, Nat.le_of_ble_eq_true rfl⟩, Nat.le_of_ble_eq_true rfl, Nat.le_of_ble_eq_true rfl⟩ rfl rfl (Nat.le_of_ble_eq_true rfl) dX9_next_4) w (fun H locs w => ?_)
  refine lv_if_eq (tgt := 19) hx hb dX9_next_7 (by decide) (fun c17 => ?_) (fun c17 => ?_)
  · replace h := ifT h c17
    refine lv_iconst (v := (-1)) hx hb dX9_next_19 (by decide) ?_
    obtain ⟨rfl, rfl⟩ := reti h
    exact m_ri X w hr hlocks dX9_next_20
  · replace h := ifF h c17
    refine lv_iload_n hx hb dX9_next_10 rfl (lv_at hl 2 rfl) ?_
    refine lv_iconst (v := 0) hx hb dX9_next_11 (by decide) ?_
    refine lv_iconst (v := 1) hx hb dX9_next_12 (by decide) ?_
    obtain ⟨r18, q19, h⟩ := ob1i h
    refine m_ci (m_rS (As := [.int a2, .int (0 : Int32), .int (1 : Int32)]) (rest := []) X w hl mi_X9_lies ml_X9_18 (c_X9_lies l D cy ad A Kc C0 N z V a2 (0 : Int32) (1 : Int32) r18 q19) ⟨⟨rfl, rfl, Nat.le_of_ble_eq_true rfl, Nat.le_of_ble_eq_true rfl⟩, Nat.le_of_ble_eq_true rfl, Nat.le_of_ble_eq_true rfl⟩ rfl rfl (Nat.le_of_ble_eq_true rfl) dX9_next_13) w (fun H locs w => ?_)
    refine lv_if_ne (tgt := 21) hx hb dX9_next_16 (by decide) (fun c20 => ?_) (fun c20 => ?_)
    · replace h := ifF h c20
      refine lv_aload_n hx hb dX9_next_21 rfl (lv_at hl 0 rfl) ?_
      obtain ⟨r21, V23, q22, h⟩ := obi h
      refine m_ci (m_rV (As := []) (rest := []) X w hl mi_X9_fits ml_X9_397 0 sm_n0 sm_k0 rfl (c_X9_fits l D cy ad A Kc C0 N z V  r21 V23 q22) ⟨⟨rfl, rfl, Nat.le_of_ble_eq_true rfl, Nat.le_of_ble_eq_true rfl⟩, Nat.le_of_ble_eq_true rfl, Nat.le_of_ble_eq_true rfl⟩ rfl rfl (Nat.le_of_ble_eq_true rfl) dX9_next_22) w (fun H locs w => ?_)
      refine lv_istore_n (lv' := [(3, .int r21), (0, .ref (ad 0)), (1, .int a1), (2, .int a2)]) hx hb dX9_next_25 rfl hl (by decide) rfl (fun ls hl => ?_)
      refine lv_iload_n hx hb dX9_next_26 rfl (lv_at hl 0 rfl) ?_
      refine lv_if_ne (tgt := 32) hx hb dX9_next_27 (by decide) (fun c24 => ?_) (fun c24 => ?_)
      · replace h := ifF h c24
        refine lv_aload_n hx hb dX9_next_32 rfl (lv_at hl 1 rfl) ?_
        refine lv_iload_n hx hb dX9_next_33 rfl (lv_at hl 2 rfl) ?_
        obtain ⟨V27, q26, h⟩ := obvi h
        refine m_cv (m_rV (As := [.int a1]) (rest := []) X w hl mi_X9_laysEnds ml_X9_400 0 sm_n0 sm_k0 rfl (c_X9_laysEnds l D cy ad A Kc C0 N z V23 a1 V27 q26) ⟨⟨rfl, rfl, Nat.le_of_ble_eq_true rfl, Nat.le_of_ble_eq_true rfl⟩, Nat.le_of_ble_eq_true rfl, Nat.le_of_ble_eq_true rfl⟩ rfl rfl (Nat.le_of_ble_eq_true rfl) dX9_next_34) w (fun H locs w => ?_)
        refine lv_iconst (v := (-1)) hx hb dX9_next_37 (by decide) ?_
        refine lv_istore (lv' := [(4, .int (-1 : Int32)), (3, .int r21), (0, .ref (ad 0)), (1, .int a1), (2, .int a2)]) hx hb dX9_next_38 hl (by decide) rfl (fun ls hl => ?_)
        refine lv_ldc (v := 1000000) hx hb hown (hts _ kc_X9_170) dX9_next_40 ?_
        refine lv_istore (lv' := [(5, .int (1000000 : Int32)), (4, .int (-1 : Int32)), (3, .int r21), (0, .ref (ad 0)), (1, .int a1), (2, .int a2)]) hx hb dX9_next_42 hl (by decide) rfl (fun ls hl => ?_)
        refine lv_iconst (v := 0) hx hb dX9_next_44 (by decide) ?_
        refine lv_istore (lv' := [(6, .int (0 : Int32)), (5, .int (1000000 : Int32)), (4, .int (-1 : Int32)), (3, .int r21), (0, .ref (ad 0)), (1, .int a1), (2, .int a2)]) hx hb dX9_next_45 hl (by decide) rfl (fun ls hl => ?_)
        have g := L47 N V27 a2 r21 (-1 : Int32) (1000000 : Int32) (0 : Int32) h
        rw [hG] at g
        exact g H locs ls w (lv_sub hl [4, 6, 3, 2, 1, 0] rfl)
      · replace h := ifT h c24
        refine lv_iconst (v := (-1)) hx hb dX9_next_30 (by decide) ?_
        obtain ⟨rfl, rfl⟩ := reti h
        exact m_ri X w hr hlocks dX9_next_31
    · replace h := ifT h c20
      refine lv_iconst (v := (-1)) hx hb dX9_next_19 (by decide) ?_
      obtain ⟨rfl, rfl⟩ := reti h
      exact m_ri X w hr hlocks dX9_next_20
def f_X9_runs_67 (N : Nat) (K19 : Vt → Int32 → Int32 → Int32 → Int32 → Option (Int32 × Vt)) (V : Vt) (v1 : Int32) (v2 : Int32) (v3 : Int32) (v4 : Int32) : Option (Int32 × Vt) := bd (v4 + (1 : Int32)) (fun x32 => K19 V v1 v2 v3 x32)
def f_X9_runs_19 (N : Nat) : Nat → Vt → Int32 → Int32 → Int32 → Int32 → Option (Int32 × Vt)
  | 0, _, _, _, _, _ => none
  | n + 1, V, v1, v2, v3, v4 => if v2 ≤ v4 then bd (sF V 0 41 v3) (fun V21 => some ((1 : Int32), V21)) else obv (f_X9_goesAlong N V v1 (1 : Int32)) (fun V24 => if (V24.1 0 45) = 0 then f_X9_runs_67 N (f_X9_runs_19 N n) V24 v1 v2 v3 v4 else if (V24.1 0 44) = 0 then some ((0 : Int32), V24) else ob (f_X9_obeys N V24) (fun r27 V29 => if 0 ≤ r27 then bd (sF V29 0 27 ((V29.1 0 27) + (1 : Int32))) (fun V31 => f_X9_runs_67 N (f_X9_runs_19 N n) V31 v1 v2 v3 v4) else some ((0 : Int32), V29)))
def f_X9_runs (N : Nat) (V : Vt) (a1 : Int32) : Option (Int32 × Vt) := obv (f_X9_goesAlong N V a1 (0 : Int32)) (fun V17 => bd (V17.1 0 42) (fun x18 => bd (V17.1 0 22) (fun x19 => f_X9_runs_19 N N V17 a1 x18 x19 (0 : Int32))))
set_option maxHeartbeats 4000000 in
set_option maxRecDepth 100000 in
theorem c_X9_runs (l : Launch) (D : va_G) (cy : Nat → ClassId) (ad : Nat → Nat) (A : Nat → Prop) (Kc : State → Prop) (C0 : Cx ad A Kc) (N : Nat) (z : Nat) (V : Vt) (a1 : Int32) (r : Int32) (V' : Vt) (h : f_X9_runs N V a1 = some (r, V')) : Met l yX9_runs (mw yX9_runs cX9_runs 5 (some .boolean)) { frames := 90, cells := 0, slots := 0, locals := 5036 } (PreM D cy ad Kc (SM z) V [.ref (ad 0), .int a1]) (QI D cy ad A r (SM z) V') 0 0 A := by
  refine ct_go C0 (own := RX9) rfl (by decide) rfl ?_
  intro p e s m below meth c ls H locs X hr hlocks hnm hl w
  have hx := X.1.1
  have hb := X.1.2.1
  have hown := X.2.1
  have hts := X.2.2.1
  have hl : lv_has ls 5 [(0, .ref (ad 0)), (1, .int a1)] := hl
  obtain ⟨G, hG⟩ : ∃ G : Nat → Vt → List (Nat × Value) → List Value → Prop, G = fun pc V lv st => ∀ (H : Heap) (locs : List Loc) (ls : Array Slot), Wd D cy ad A s.heap (SM z) V H locs → lv_has ls 5 lv → W p l e { frames := 90, cells := 0, slots := 0, locals := 5036 } s m ([.ref (ad 0), .int a1] : List Value).toArray below meth c H locs 0 0 (MQ below (QI D cy ad A r (SM z) V') ([.ref (ad 0), .int a1] : List Value).toArray s 0 0 A) (F0 m pc ls st) := ⟨_, rfl⟩
  have L19 : ∀ (n19 : Nat) (V : Vt) (v1 : Int32) (v2 : Int32) (v3 : Int32) (v4 : Int32), f_X9_runs_19 N n19 V v1 v2 v3 v4 = some (r, V') → G 19 V [(0, .ref (ad 0)), (1, .int v1), (2, .int v2), (3, .int v3), (4, .int v4)] [] := by
    intro n19
    induction n19 with
    | zero => intro V v1 v2 v3 v4 h; rw [f_X9_runs_19] at h; cases h
    | succ n19 ih19 =>
      have B67 : ∀ (V : Vt) (v1 : Int32) (v2 : Int32) (v3 : Int32) (v4 : Int32), f_X9_runs_67 N (f_X9_runs_19 N n19) V v1 v2 v3 v4 = some (r, V') → G 67 V [(0, .ref (ad 0)), (1, .int v1), (2, .int v2), (3, .int v3), (4, .int v4)] [] := by
        intro V v1 v2 v3 v4 h
        rw [hG]
        intro H locs ls w hl
        rw [f_X9_runs_67] at h
        obtain ⟨x32, ex32⟩ : ∃ y : Int32, y = v4 + (1 : Int32) := ⟨_, rfl⟩
        replace h := bdi h _ ex32
        refine lv_iinc (v := x32) (lv' := [(4, .int x32), (0, .ref (ad 0)), (1, .int v1), (2, .int v2), (3, .int v3)]) hx hb dX9_runs_67 hl (k := 4) rfl (by rw [ex32]; rfl) (by decide) rfl (fun ls hl => ?_)
        refine lv_goto (tgt := 19) hx hb dX9_runs_70 (by decide) ?_
        have g := ih19 V v1 v2 v3 x32 h
        rw [hG] at g
        exact g H locs ls w (lv_sub hl [1, 2, 3, 4, 0] rfl)
      intro V v1 v2 v3 v4 h
      rw [hG]
      intro H locs ls w hl
      rw [f_X9_runs_19] at h
      refine lv_iload hx hb dX9_runs_19 (lv_at hl 4 rfl) ?_
      refine lv_iload_n hx hb dX9_runs_21 rfl (lv_at hl 2 rfl) ?_
      refine lv_icmp_ge (tgt := 73) hx hb dX9_runs_22 (by decide) (fun c20 => ?_) (fun c20 => ?_)
      · replace h := ifT h c20
        refine lv_aload_n hx hb dX9_runs_73 rfl (lv_at hl 0 rfl) ?_
        refine lv_iload_n hx hb dX9_runs_74 rfl (lv_at hl 3 rfl) ?_
        refine m_put X w 0 sm_n0 sm_k0 ci9 41 (by decide) rfl rfl rfl rfl rfl fl_X9_421 dX9_runs_75 (fun V21 H locs eV21 w => ?_)
        replace h := bdi h _ eV21
        refine lv_iconst (v := 1) hx hb dX9_runs_78 (by decide) ?_
        obtain ⟨rfl, rfl⟩ := reti h
        exact m_rz X w hr rfl hlocks dX9_runs_79
      · replace h := ifF h c20
        refine lv_aload_n hx hb dX9_runs_25 rfl (lv_at hl 0 rfl) ?_
        refine lv_iload_n hx hb dX9_runs_26 rfl (lv_at hl 1 rfl) ?_
        refine lv_iconst (v := 1) hx hb dX9_runs_27 (by decide) ?_
        obtain ⟨V24, q23, h⟩ := obvi h
        refine m_cv (m_rV (As := [.int v1, .int (1 : Int32)]) (rest := []) X w hl mi_X9_goesAlong ml_X9_448 0 sm_n0 sm_k0 rfl (c_X9_goesAlong l D cy ad A Kc C0 N z V v1 (1 : Int32) V24 q23) ⟨⟨rfl, rfl, Nat.le_of_ble_eq_true rfl, Nat.le_of_ble_eq_true rfl⟩, Nat.le_of_ble_eq_true rfl, Nat.le_of_ble_eq_true rfl⟩ rfl rfl (Nat.le_of_ble_eq_true rfl) dX9_runs_28) w (fun H locs w => ?_)
        refine lv_aload_n hx hb dX9_runs_31 rfl (lv_at hl 0 rfl) ?_
        refine m_get X w 0 sm_n0 sm_k0 ci9 45 (by decide) (fvI sm_k0 rfl) rfl fl_X9_439 dX9_runs_32 ?_
        refine lv_if_ne (tgt := 41) hx hb dX9_runs_35 (by decide) (fun c25 => ?_) (fun c25 => ?_)
        · replace h := ifF h c25
          refine lv_aload_n hx hb dX9_runs_41 rfl (lv_at hl 0 rfl) ?_
          refine m_get X w 0 sm_n0 sm_k0 ci9 44 (by decide) (fvI sm_k0 rfl) rfl fl_X9_433 dX9_runs_42 ?_
          refine lv_if_eq (tgt := 55) hx hb dX9_runs_45 (by decide) (fun c26 => ?_) (fun c26 => ?_)
          · replace h := ifT h c26
            refine lv_iconst (v := 0) hx hb dX9_runs_55 (by decide) ?_
            obtain ⟨rfl, rfl⟩ := reti h
            exact m_rz X w hr rfl hlocks dX9_runs_56
          · replace h := ifF h c26
            refine lv_aload_n hx hb dX9_runs_48 rfl (lv_at hl 0 rfl) ?_
            obtain ⟨r27, V29, q28, h⟩ := obi h
            refine m_ci (m_rV (As := []) (rest := []) X w hl mi_X9_obeys ml_X9_452 0 sm_n0 sm_k0 rfl (c_X9_obeys l D cy ad A Kc C0 N z V24  r27 V29 q28) ⟨⟨rfl, rfl, Nat.le_of_ble_eq_true rfl, Nat.le_of_ble_eq_true rfl⟩, Nat.le_of_ble_eq_true rfl, Nat.le_of_ble_eq_true rfl⟩ rfl rfl (Nat.le_of_ble_eq_true rfl) dX9_runs_49) w (fun H locs w => ?_)
            refine lv_if_ge (tgt := 57) hx hb dX9_runs_52 (by decide) (fun c30 => ?_) (fun c30 => ?_)
            · replace h := ifT h c30
              refine lv_aload_n hx hb dX9_runs_57 rfl (lv_at hl 0 rfl) ?_
              refine lv_dup hx hb dX9_runs_58 rfl ?_
              refine m_get X w 0 sm_n0 sm_k0 ci9 27 (by decide) (fvI sm_k0 rfl) rfl fl_X9_294 dX9_runs_59 ?_
              refine lv_iconst (v := 1) hx hb dX9_runs_62 (by decide) ?_
              refine lv_iadd hx hb dX9_runs_63 ?_
              refine m_put X w 0 sm_n0 sm_k0 ci9 27 (by decide) rfl rfl rfl rfl rfl fl_X9_294 dX9_runs_64 (fun V31 H locs eV31 w => ?_)
              replace h := bdi h _ eV31
              have g := B67 V31 v1 v2 v3 v4 h
              rw [hG] at g
              exact g H locs ls w (lv_sub hl [0, 1, 2, 3, 4] rfl)
            · replace h := ifF h c30
              refine lv_iconst (v := 0) hx hb dX9_runs_55 (by decide) ?_
              obtain ⟨rfl, rfl⟩ := reti h
              exact m_rz X w hr rfl hlocks dX9_runs_56
        · replace h := ifT h c25
          refine lv_goto (tgt := 67) hx hb dX9_runs_38 (by decide) ?_
          have g := B67 V24 v1 v2 v3 v4 h
          rw [hG] at g
          exact g H locs ls w (lv_sub hl [0, 1, 2, 3, 4] rfl)
  rw [f_X9_runs] at h
  refine lv_aload_n hx hb dX9_runs_0 rfl (lv_at hl 0 rfl) ?_
  refine lv_iload_n hx hb dX9_runs_1 rfl (lv_at hl 1 rfl) ?_
  refine lv_iconst (v := 0) hx hb dX9_runs_2 (by decide) ?_
  obtain ⟨V17, q16, h⟩ := obvi h
  refine m_cv (m_rV (As := [.int a1, .int (0 : Int32)]) (rest := []) X w hl mi_X9_goesAlong ml_X9_448 0 sm_n0 sm_k0 rfl (c_X9_goesAlong l D cy ad A Kc C0 N z V a1 (0 : Int32) V17 q16) ⟨⟨rfl, rfl, Nat.le_of_ble_eq_true rfl, Nat.le_of_ble_eq_true rfl⟩, Nat.le_of_ble_eq_true rfl, Nat.le_of_ble_eq_true rfl⟩ rfl rfl (Nat.le_of_ble_eq_true rfl) dX9_runs_3) w (fun H locs w => ?_)
  refine lv_aload_n hx hb dX9_runs_6 rfl (lv_at hl 0 rfl) ?_
  refine m_get X w 0 sm_n0 sm_k0 ci9 42 (by decide) (fvI sm_k0 rfl) rfl fl_X9_436 dX9_runs_7 ?_
  refine lv_topi (fun x18 ex18 => ?_)
  replace h := bdi h _ ex18
  refine lv_istore_n (lv' := [(2, .int x18), (0, .ref (ad 0)), (1, .int a1)]) hx hb dX9_runs_10 rfl hl (by decide) rfl (fun ls hl => ?_)
  refine lv_aload_n hx hb dX9_runs_11 rfl (lv_at hl 1 rfl) ?_
  refine m_get X w 0 sm_n0 sm_k0 ci9 22 (by decide) (fvI sm_k0 rfl) rfl fl_X9_258 dX9_runs_12 ?_
  refine lv_topi (fun x19 ex19 => ?_)
  replace h := bdi h _ ex19
  refine lv_istore_n (lv' := [(3, .int x19), (2, .int x18), (0, .ref (ad 0)), (1, .int a1)]) hx hb dX9_runs_15 rfl hl (by decide) rfl (fun ls hl => ?_)
  refine lv_iconst (v := 0) hx hb dX9_runs_16 (by decide) ?_
  refine lv_istore (lv' := [(4, .int (0 : Int32)), (3, .int x19), (2, .int x18), (0, .ref (ad 0)), (1, .int a1)]) hx hb dX9_runs_17 hl (by decide) rfl (fun ls hl => ?_)
  have g := L19 N V17 a1 x18 x19 (0 : Int32) h
  rw [hG] at g
  exact g H locs ls w (lv_sub hl [3, 4, 2, 1, 0] rfl)
