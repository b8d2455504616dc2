def f_X9_lies (N : Nat) (a1 : Int32) (a2 : Int32) (a3 : Int32) : Option Int32 := if a1 < a2 then some (0 : Int32) else if a3 < a1 then some (0 : Int32) else some (1 : Int32)
set_option maxHeartbeats 4000000 in
set_option maxRecDepth 100000 in
theorem c_X9_lies (l : Launch) (D : va_G) (cy : Nat → ClassId) (ad : Nat → Nat) (A : Nat → Prop) (Kc : State → Prop) (C0 : Cx ad A Kc) (N : Nat) (z : Nat) (V : Vt) (a1 : Int32) (a2 : Int32) (a3 : Int32) (r : Int32) (h : f_X9_lies N a1 a2 a3 = some r) : Met l yX9_lies (mw yX9_lies cX9_lies 3 (some .boolean)) { frames := 0, cells := 0, slots := 0, locals := 0 } (PreM D cy ad Kc (SM z) V [.int a1, .int a2, .int a3]) (QI D cy ad A r (SM z) V) 0 0 A := by
  refine ct_go C0 (own := RX9) rfl (by decide) rfl ?_
  intro p e s m below meth c ls H locs X hr hlocks hnm hl w
  have hx := X.1.1
  have hb := X.1.2.1
  have hown := X.2.1
  have hts := X.2.2.1
  have hl : lv_has ls 3 [(0, .int a1), (1, .int a2), (2, .int a3)] := hl
  rw [f_X9_lies] at h
  refine lv_iload_n hx hb dX9_lies_0 rfl (lv_at hl 0 rfl) ?_
  refine lv_iload_n hx hb dX9_lies_1 rfl (lv_at hl 1 rfl) ?_
  refine lv_icmp_lt (tgt := 14) hx hb dX9_lies_2 (by decide) (fun c1 => ?_) (fun c1 => ?_)
  · replace h := ifT h c1
    refine lv_iconst (v := 0) hx hb dX9_lies_14 (by decide) ?_
    obtain rfl := Option.some.inj h
    exact m_rz X w hr rfl hlocks dX9_lies_15
  · replace h := ifF h c1
    refine lv_iload_n hx hb dX9_lies_5 rfl (lv_at hl 0 rfl) ?_
    refine lv_iload_n hx hb dX9_lies_6 rfl (lv_at hl 2 rfl) ?_
    refine lv_icmp_gt (tgt := 14) hx hb dX9_lies_7 (by decide) (fun c2 => ?_) (fun c2 => ?_)
    · replace h := ifT h c2
      refine lv_iconst (v := 0) hx hb dX9_lies_14 (by decide) ?_
      obtain rfl := Option.some.inj h
      exact m_rz X w hr rfl hlocks dX9_lies_15
    · replace h := ifF h c2
      refine lv_iconst (v := 1) hx hb dX9_lies_10 (by decide) ?_
      refine lv_goto (tgt := 15) hx hb dX9_lies_11 (by decide) ?_
      obtain rfl := Option.some.inj h
      exact m_rz X w hr rfl hlocks dX9_lies_15
def f_X9_lesser (N : Nat) (a1 : Int32) (a2 : Int32) : Option Int32 := if a2 ≤ a1 then some a2 else some a1
set_option maxHeartbeats 4000000 in
set_option maxRecDepth 100000 in
theorem c_X9_lesser (l : Launch) (D : va_G) (cy : Nat → ClassId) (ad : Nat → Nat) (A : Nat → Prop) (Kc : State → Prop) (C0 : Cx ad A Kc) (N : Nat) (z : Nat) (V : Vt) (a1 : Int32) (a2 : Int32) (r : Int32) (h : f_X9_lesser N a1 a2 = some r) : Met l yX9_lesser (mw yX9_lesser cX9_lesser 2 (some .int)) { frames := 0, cells := 0, slots := 0, locals := 0 } (PreM D cy ad Kc (SM z) V [.int a1, .int a2]) (QI D cy ad A r (SM z) V) 0 0 A := by
  refine ct_go C0 (own := RX9) rfl (by decide) rfl ?_
  intro p e s m below meth c ls H locs X hr hlocks hnm hl w
  have hx := X.1.1
  have hb := X.1.2.1
  have hown := X.2.1
  have hts := X.2.2.1
  have hl : lv_has ls 2 [(0, .int a1), (1, .int a2)] := hl
  rw [f_X9_lesser] at h
  refine lv_iload_n hx hb dX9_lesser_0 rfl (lv_at hl 0 rfl) ?_
  refine lv_iload_n hx hb dX9_lesser_1 rfl (lv_at hl 1 rfl) ?_
  refine lv_icmp_ge (tgt := 9) hx hb dX9_lesser_2 (by decide) (fun c1 => ?_) (fun c1 => ?_)
  · replace h := ifT h c1
    refine lv_iload_n hx hb dX9_lesser_9 rfl (lv_at hl 1 rfl) ?_
    obtain rfl := Option.some.inj h
    exact m_ri X w hr hlocks dX9_lesser_10
  · replace h := ifF h c1
    refine lv_iload_n hx hb dX9_lesser_5 rfl (lv_at hl 0 rfl) ?_
    refine lv_goto (tgt := 10) hx hb dX9_lesser_6 (by decide) ?_
    obtain rfl := Option.some.inj h
    exact m_ri X w hr hlocks dX9_lesser_10
def f_X9_greater (N : Nat) (a1 : Int32) (a2 : Int32) : Option Int32 := if a1 ≤ a2 then some a2 else some a1
set_option maxHeartbeats 4000000 in
set_option maxRecDepth 100000 in
theorem c_X9_greater (l : Launch) (D : va_G) (cy : Nat → ClassId) (ad : Nat → Nat) (A : Nat → Prop) (Kc : State → Prop) (C0 : Cx ad A Kc) (N : Nat) (z : Nat) (V : Vt) (a1 : Int32) (a2 : Int32) (r : Int32) (h : f_X9_greater N a1 a2 = some r) : Met l yX9_greater (mw yX9_greater cX9_greater 2 (some .int)) { frames := 0, cells := 0, slots := 0, locals := 0 } (PreM D cy ad Kc (SM z) V [.int a1, .int a2]) (QI D cy ad A r (SM z) V) 0 0 A := by
  refine ct_go C0 (own := RX9) rfl (by decide) rfl ?_
  intro p e s m below meth c ls H locs X hr hlocks hnm hl w
  have hx := X.1.1
  have hb := X.1.2.1
  have hown := X.2.1
  have hts := X.2.2.1
  have hl : lv_has ls 2 [(0, .int a1), (1, .int a2)] := hl
  rw [f_X9_greater] at h
  refine lv_iload_n hx hb dX9_greater_0 rfl (lv_at hl 0 rfl) ?_
  refine lv_iload_n hx hb dX9_greater_1 rfl (lv_at hl 1 rfl) ?_
  refine lv_icmp_le (tgt := 9) hx hb dX9_greater_2 (by decide) (fun c1 => ?_) (fun c1 => ?_)
  · replace h := ifT h c1
    refine lv_iload_n hx hb dX9_greater_9 rfl (lv_at hl 1 rfl) ?_
    obtain rfl := Option.some.inj h
    exact m_ri X w hr hlocks dX9_greater_10
  · replace h := ifF h c1
    refine lv_iload_n hx hb dX9_greater_5 rfl (lv_at hl 0 rfl) ?_
    refine lv_goto (tgt := 10) hx hb dX9_greater_6 (by decide) ?_
    obtain rfl := Option.some.inj h
    exact m_ri X w hr hlocks dX9_greater_10
def f_X9_refuses (N : Nat) (V : Vt) (a1 : Int32) : Option (Int32 × Vt) := bd (sF V 0 0 a1) (fun V5 => ck (-a1) 7 (ck (-a1) 7 (bd (sA V5 1 (-a1).toNatClampNeg ((V5.2.1 1 (-a1).toNatClampNeg) + (1 : Int32))) (fun V8 => some (a1, V8)))))
set_option maxHeartbeats 4000000 in
set_option maxRecDepth 100000 in
theorem c_X9_refuses (l : Launch) (D : va_G) (cy : Nat → ClassId) (ad : Nat → Nat) (A : Nat → Prop) (Kc : State → Prop) (C0 : Cx ad A Kc) (N : Nat) (z : Nat) (V : Vt) (a1 : Int32) (r : Int32) (V' : Vt) (h : f_X9_refuses N V a1 = some (r, V')) : Met l yX9_refuses (mw yX9_refuses cX9_refuses 2 (some .int)) { frames := 0, cells := 0, slots := 0, locals := 0 } (PreM D cy ad Kc (SM z) V [.ref (ad 0), .int a1]) (QI D cy ad A r (SM z) V') 0 0 A := by
  refine ct_go C0 (own := RX9) rfl (by decide) rfl ?_
  intro p e s m below meth c ls H locs X hr hlocks hnm hl w
  have hx := X.1.1
  have hb := X.1.2.1
  have hown := X.2.1
  have hts := X.2.2.1
  have hl : lv_has ls 2 [(0, .ref (ad 0)), (1, .int a1)] := hl
  rw [f_X9_refuses] at h
  refine lv_aload_n hx hb dX9_refuses_0 rfl (lv_at hl 0 rfl) ?_
  refine lv_iload_n hx hb dX9_refuses_1 rfl (lv_at hl 1 rfl) ?_
  refine m_put X w 0 sm_n0 sm_k0 ci9 0 (by decide) rfl rfl rfl rfl rfl fl_X9_3 dX9_refuses_2 (fun V5 H locs eV5 w => ?_)
  replace h := bdi h _ eV5
  refine lv_aload_n hx hb dX9_refuses_5 rfl (lv_at hl 0 rfl) ?_
  refine m_get X w 0 sm_n0 sm_k0 ci9 1 (by decide) (fvR sm_k0 rfl sm_p1) rfl fl_X9_7 dX9_refuses_6 ?_
  refine lv_iload_n hx hb dX9_refuses_9 rfl (lv_at hl 1 rfl) ?_
  refine lv_ineg hx hb dX9_refuses_10 ?_
  refine lv_dup2_11 hx hb dX9_refuses_11 rfl rfl ?_
  obtain ⟨g6, h⟩ := cki h
  refine m_iald X w 1 sm_n1 sm_k1 sm_z1 g6 dX9_refuses_12 ?_
  refine lv_iconst (v := 1) hx hb dX9_refuses_13 (by decide) ?_
  refine lv_iadd hx hb dX9_refuses_14 ?_
  obtain ⟨g7, h⟩ := cki h
  refine m_iast X w 1 sm_n1 sm_k1 sm_z1 g7 dX9_refuses_15 (fun V8 H locs eV8 w => ?_)
  replace h := bdi h _ eV8
  refine lv_iload_n hx hb dX9_refuses_16 rfl (lv_at hl 1 rfl) ?_
  obtain ⟨rfl, rfl⟩ := reti h
  exact m_ri X w hr hlocks dX9_refuses_17
def f_X9_good (N : Nat) (V : Vt) (a1 : Int32) : Option (Int32 × Vt) := bd (sF V 0 0 (0 : Int32)) (fun V2 => some (a1, V2))
set_option maxHeartbeats 4000000 in
set_option maxRecDepth 100000 in
theorem c_X9_good (l : Launch) (D : va_G) (cy : Nat → ClassId) (ad : Nat → Nat) (A : Nat → Prop) (Kc : State → Prop) (C0 : Cx ad A Kc) (N : Nat) (z : Nat) (V : Vt) (a1 : Int32) (r : Int32) (V' : Vt) (h : f_X9_good N V a1 = some (r, V')) : Met l yX9_good (mw yX9_good cX9_good 2 (some .int)) { frames := 0, cells := 0, slots := 0, locals := 0 } (PreM D cy ad Kc (SM z) V [.ref (ad 0), .int a1]) (QI D cy ad A r (SM z) V') 0 0 A := by
  refine ct_go C0 (own := RX9) rfl (by decide) rfl ?_
  intro p e s m below meth c ls H locs X hr hlocks hnm hl w
  have hx := X.1.1
  have hb := X.1.2.1
  have hown := X.2.1
  have hts := X.2.2.1
  have hl : lv_has ls 2 [(0, .ref (ad 0)), (1, .int a1)] := hl
  rw [f_X9_good] at h
  refine lv_aload_n hx hb dX9_good_0 rfl (lv_at hl 0 rfl) ?_
  refine lv_iconst (v := 0) hx hb dX9_good_1 (by decide) ?_
  refine m_put X w 0 sm_n0 sm_k0 ci9 0 (by decide) rfl rfl rfl rfl rfl fl_X9_3 dX9_good_2 (fun V2 H locs eV2 w => ?_)
  replace h := bdi h _ eV2
  refine lv_iload_n hx hb dX9_good_5 rfl (lv_at hl 1 rfl) ?_
  obtain ⟨rfl, rfl⟩ := reti h
  exact m_ri X w hr hlocks dX9_good_6
def f_X9_isIn (N : Nat) (a1 : Int32) (a2 : Int32) : Option Int32 := if ((a1 >>> (a2 &&& 31)) &&& (1 : Int32)) = (1 : Int32) then some (1 : Int32) else some (0 : Int32)
set_option maxHeartbeats 4000000 in
set_option maxRecDepth 100000 in
theorem c_X9_isIn (l : Launch) (D : va_G) (cy : Nat → ClassId) (ad : Nat → Nat) (A : Nat → Prop) (Kc : State → Prop) (C0 : Cx ad A Kc) (N : Nat) (z : Nat) (V : Vt) (a1 : Int32) (a2 : Int32) (r : Int32) (h : f_X9_isIn N a1 a2 = some r) : Met l yX9_isIn (mw yX9_isIn cX9_isIn 2 (some .boolean)) { frames := 0, cells := 0, slots := 0, locals := 0 } (PreM D cy ad Kc (SM z) V [.int a1, .int a2]) (QI D cy ad A r (SM z) V) 0 0 A := by
  refine ct_go C0 (own := RX9) rfl (by decide) rfl ?_
  intro p e s m below meth c ls H locs X hr hlocks hnm hl w
  have hx := X.1.1
  have hb := X.1.2.1
  have hown := X.2.1
  have hts := X.2.2.1
  have hl : lv_has ls 2 [(0, .int a1), (1, .int a2)] := hl
  rw [f_X9_isIn] at h
  refine lv_iload_n hx hb dX9_isIn_0 rfl (lv_at hl 0 rfl) ?_
  refine lv_iload_n hx hb dX9_isIn_1 rfl (lv_at hl 1 rfl) ?_
  refine lv_ishr hx hb dX9_isIn_2 ?_
  refine lv_iconst (v := 1) hx hb dX9_isIn_3 (by decide) ?_
  refine lv_iand hx hb dX9_isIn_4 ?_
  refine lv_iconst (v := 1) hx hb dX9_isIn_5 (by decide) ?_
  refine lv_icmp_ne (tgt := 13) hx hb dX9_isIn_6 (by decide) (fun c1 => ?_) (fun c1 => ?_)
  · replace h := ifF h c1
    refine lv_iconst (v := 0) hx hb dX9_isIn_13 (by decide) ?_
    obtain rfl := Option.some.inj h
    exact m_rz X w hr rfl hlocks dX9_isIn_14
  · replace h := ifT h c1
    refine lv_iconst (v := 1) hx hb dX9_isIn_9 (by decide) ?_
    refine lv_goto (tgt := 14) hx hb dX9_isIn_10 (by decide) ?_
    obtain rfl := Option.some.inj h
    exact m_rz X w hr rfl hlocks dX9_isIn_14
def f_X9_ones_4 (N : Nat) : Nat → Int32 → Int32 → Int32 → Option Int32
  | 0, _, _, _ => none
  | n + 1, v0, v1, v2 => if (25 : Int32) ≤ v2 then some v1 else bd (v1 + ((v0 >>> (v2 &&& 31)) &&& (1 : Int32))) (fun x4 => bd (v2 + (1 : Int32)) (fun x5 => (f_X9_ones_4 N n) v0 x4 x5))
def f_X9_ones (N : Nat) (a1 : Int32) : Option Int32 := f_X9_ones_4 N N a1 (0 : Int32) (0 : Int32)
set_option maxHeartbeats 4000000 in
set_option maxRecDepth 100000 in
theorem c_X9_ones (l : Launch) (D : va_G) (cy : Nat → ClassId) (ad : Nat → Nat) (A : Nat → Prop) (Kc : State → Prop) (C0 : Cx ad A Kc) (N : Nat) (z : Nat) (V : Vt) (a1 : Int32) (r : Int32) (h : f_X9_ones N a1 = some r) : Met l yX9_ones (mw yX9_ones cX9_ones 3 (some .int)) { frames := 0, cells := 0, slots := 0, locals := 0 } (PreM D cy ad Kc (SM z) V [.int a1]) (QI D cy ad A r (SM z) V) 0 0 A := by
  refine ct_go C0 (own := RX9) rfl (by decide) rfl ?_
  intro p e s m below meth c ls H locs X hr hlocks hnm hl w
  have hx := X.1.1
  have hb := X.1.2.1
  have hown := X.2.1
  have hts := X.2.2.1
  have hl : lv_has ls 3 [(0, .int a1)] := hl
  obtain ⟨G, hG⟩ : ∃ G : Nat → Vt → List (Nat × Value) → List Value → Prop, G = fun pc V lv st => ∀ (H : Heap) (locs : List Loc) (ls : Array Slot), Wd D cy ad A s.heap (SM z) V H locs → lv_has ls 3 lv → W p l e { frames := 0, cells := 0, slots := 0, locals := 0 } s m ([.int a1] : List Value).toArray below meth c H locs 0 0 (MQ below (QI D cy ad A r (SM z) V) ([.int a1] : List Value).toArray s 0 0 A) (F0 m pc ls st) := ⟨_, rfl⟩
  have L4 : ∀ (n4 : Nat) (v0 : Int32) (v1 : Int32) (v2 : Int32), f_X9_ones_4 N n4 v0 v1 v2 = some r → G 4 V [(0, .int v0), (1, .int v1), (2, .int v2)] [] := by
    intro n4
    induction n4 with
    | zero => intro v0 v1 v2 h; rw [f_X9_ones_4] at h; cases h
    | succ n4 ih4 =>
      intro v0 v1 v2 h
      rw [hG]
      intro H locs ls w hl
      rw [f_X9_ones_4] at h
      refine lv_iload_n hx hb dX9_ones_4 rfl (lv_at hl 2 rfl) ?_
      refine lv_bipush (v := 25) hx hb dX9_ones_5 (by decide) ?_
      refine lv_icmp_ge (tgt := 24) hx hb dX9_ones_7 (by decide) (fun c3 => ?_) (fun c3 => ?_)
      · replace h := ifT h c3
        refine lv_iload_n hx hb dX9_ones_24 rfl (lv_at hl 1 rfl) ?_
        obtain rfl := Option.some.inj h
        exact m_ri X w hr hlocks dX9_ones_25
      · replace h := ifF h c3
        refine lv_iload_n hx hb dX9_ones_10 rfl (lv_at hl 1 rfl) ?_
        refine lv_iload_n hx hb dX9_ones_11 rfl (lv_at hl 0 rfl) ?_
        refine lv_iload_n hx hb dX9_ones_12 rfl (lv_at hl 2 rfl) ?_
        refine lv_ishr hx hb dX9_ones_13 ?_
        refine lv_iconst (v := 1) hx hb dX9_ones_14 (by decide) ?_
        refine lv_iand hx hb dX9_ones_15 ?_
        refine lv_iadd hx hb dX9_ones_16 ?_
        refine lv_topi (fun x4 ex4 => ?_)
        replace h := bdi h _ ex4
        refine lv_istore_n (lv' := [(1, .int x4), (0, .int v0), (2, .int v2)]) hx hb dX9_ones_17 rfl hl (by decide) rfl (fun ls hl => ?_)
        obtain ⟨x5, ex5⟩ : ∃ y : Int32, y = v2 + (1 : Int32) := ⟨_, rfl⟩
        replace h := bdi h _ ex5
        refine lv_iinc (v := x5) (lv' := [(2, .int x5), (1, .int x4), (0, .int v0)]) hx hb dX9_ones_18 hl (k := 2) rfl (by rw [ex5]; rfl) (by decide) rfl (fun ls hl => ?_)
        refine lv_goto (tgt := 4) hx hb dX9_ones_21 (by decide) ?_
        have g := ih4 v0 x4 x5 h
        rw [hG] at g
        exact g H locs ls w (lv_sub hl [2, 1, 0] rfl)
  rw [f_X9_ones] at h
  refine lv_iconst (v := 0) hx hb dX9_ones_0 (by decide) ?_
  refine lv_istore_n (lv' := [(1, .int (0 : Int32)), (0, .int a1)]) hx hb dX9_ones_1 rfl hl (by decide) rfl (fun ls hl => ?_)
  refine lv_iconst (v := 0) hx hb dX9_ones_2 (by decide) ?_
  refine lv_istore_n (lv' := [(2, .int (0 : Int32)), (1, .int (0 : Int32)), (0, .int a1)]) hx hb dX9_ones_3 rfl hl (by decide) rfl (fun ls hl => ?_)
  have g := L4 N a1 (0 : Int32) (0 : Int32) h
  rw [hG] at g
  exact g H locs ls w (lv_sub hl [2, 1, 0] rfl)
def f_X9_laysAside_2 (N : Nat) : Nat → Vt → Int32 → Int32 → Option Vt
  | 0, _, _, _ => none
  | n + 1, V, v1, v2 => if (32 : Int32) ≤ v2 then some V else ck v2 5715 (ck (((32 : Int32) * v1) + v2) 64 (bd (sA V 5 (((32 : Int32) * v1) + v2).toNatClampNeg (V.2.1 2 v2.toNatClampNeg)) (fun V8 => bd (v2 + (1 : Int32)) (fun x9 => (f_X9_laysAside_2 N n) V8 v1 x9))))
def f_X9_laysAside (N : Nat) (V : Vt) (a1 : Int32) : Option Vt := f_X9_laysAside_2 N N V a1 (0 : Int32)
set_option maxHeartbeats 4000000 in
set_option maxRecDepth 100000 in
theorem c_X9_laysAside (l : Launch) (D : va_G) (cy : Nat → ClassId) (ad : Nat → Nat) (A : Nat → Prop) (Kc : State → Prop) (C0 : Cx ad A Kc) (N : Nat) (z : Nat) (V : Vt) (a1 : Int32) (V' : Vt) (h : f_X9_laysAside N V a1 = some V') : Met l yX9_laysAside (mw yX9_laysAside cX9_laysAside 3 none) { frames := 0, cells := 0, slots := 0, locals := 0 } (PreM D cy ad Kc (SM z) V [.ref (ad 0), .int a1]) (QV D cy ad A (SM z) V') 0 0 A := by
  refine ct_go C0 (own := RX9) rfl (by decide) rfl ?_
  intro p e s m below meth c ls H locs X hr hlocks hnm hl w
  have hx := X.1.1
  have hb := X.1.2.1
  have hown := X.2.1
  have hts := X.2.2.1
  have hl : lv_has ls 3 [(0, .ref (ad 0)), (1, .int a1)] := hl
  obtain ⟨G, hG⟩ : ∃ G : Nat → Vt → List (Nat × Value) → List Value → Prop, G = fun pc V lv st => ∀ (H : Heap) (locs : List Loc) (ls : Array Slot), Wd D cy ad A s.heap (SM z) V H locs → lv_has ls 3 lv → W p l e { frames := 0, cells := 0, slots := 0, locals := 0 } s m ([.ref (ad 0), .int a1] : List Value).toArray below meth c H locs 0 0 (MQ below (QV D cy ad A (SM z) V') ([.ref (ad 0), .int a1] : List Value).toArray s 0 0 A) (F0 m pc ls st) := ⟨_, rfl⟩
  have L2 : ∀ (n2 : Nat) (V : Vt) (v1 : Int32) (v2 : Int32), f_X9_laysAside_2 N n2 V v1 v2 = some V' → G 2 V [(0, .ref (ad 0)), (1, .int v1), (2, .int v2)] [] := by
    intro n2
    induction n2 with
    | zero => intro V v1 v2 h; rw [f_X9_laysAside_2] at h; cases h
    | succ n2 ih2 =>
      intro V v1 v2 h
      rw [hG]
      intro H locs ls w hl
      rw [f_X9_laysAside_2] at h
      refine lv_iload_n hx hb dX9_laysAside_2 rfl (lv_at hl 2 rfl) ?_
      refine lv_bipush (v := 32) hx hb dX9_laysAside_3 (by decide) ?_
      refine lv_icmp_ge (tgt := 31) hx hb dX9_laysAside_5 (by decide) (fun c5 => ?_) (fun c5 => ?_)
      · replace h := ifT h c5
        obtain rfl := Option.some.inj h
        exact m_rv X w hr hlocks dX9_laysAside_31
      · replace h := ifF h c5
        refine lv_aload_n hx hb dX9_laysAside_8 rfl (lv_at hl 0 rfl) ?_
        refine m_get X w 0 sm_n0 sm_k0 ci9 5 (by decide) (fvR sm_k0 rfl sm_p5) rfl fl_X9_38 dX9_laysAside_9 ?_
        refine lv_bipush (v := 32) hx hb dX9_laysAside_12 (by decide) ?_
        refine lv_iload_n hx hb dX9_laysAside_14 rfl (lv_at hl 1 rfl) ?_
        refine lv_imul hx hb dX9_laysAside_15 ?_
        refine lv_iload_n hx hb dX9_laysAside_16 rfl (lv_at hl 2 rfl) ?_
        refine lv_iadd hx hb dX9_laysAside_17 ?_
        refine lv_aload_n hx hb dX9_laysAside_18 rfl (lv_at hl 0 rfl) ?_
        refine m_get X w 0 sm_n0 sm_k0 ci9 2 (by decide) (fvR sm_k0 rfl sm_p2) rfl fl_X9_28 dX9_laysAside_19 ?_
        refine lv_iload_n hx hb dX9_laysAside_22 rfl (lv_at hl 2 rfl) ?_
        obtain ⟨g6, h⟩ := cki h
        refine m_iald X w 2 sm_n2 sm_k2 sm_z2 g6 dX9_laysAside_23 ?_
        obtain ⟨g7, h⟩ := cki h
        refine m_iast X w 5 sm_n5 sm_k5 sm_z5 g7 dX9_laysAside_24 (fun V8 H locs eV8 w => ?_)
        replace h := bdi h _ eV8
        obtain ⟨x9, ex9⟩ : ∃ y : Int32, y = v2 + (1 : Int32) := ⟨_, rfl⟩
        replace h := bdi h _ ex9
        refine lv_iinc (v := x9) (lv' := [(2, .int x9), (0, .ref (ad 0)), (1, .int v1)]) hx hb dX9_laysAside_25 hl (k := 2) rfl (by rw [ex9]; rfl) (by decide) rfl (fun ls hl => ?_)
        refine lv_goto (tgt := 2) hx hb dX9_laysAside_28 (by decide) ?_
        have g := ih2 V8 v1 x9 h
        rw [hG] at g
        exact g H locs ls w (lv_sub hl [1, 2, 0] rfl)
  rw [f_X9_laysAside] at h
  refine lv_iconst (v := 0) hx hb dX9_laysAside_0 (by decide) ?_
  refine lv_istore_n (lv' := [(2, .int (0 : Int32)), (0, .ref (ad 0)), (1, .int a1)]) hx hb dX9_laysAside_1 rfl hl (by decide) rfl (fun ls hl => ?_)
  have g := L2 N V a1 (0 : Int32) h
  rw [hG] at g
  exact g H locs ls w (lv_sub hl [1, 2, 0] rfl)
def f_X9_takesBack_2 (N : Nat) : Nat → Vt → Int32 → Int32 → Option Vt
  | 0, _, _, _ => none
  | n + 1, V, v1, v2 => if (32 : Int32) ≤ v2 then some V else ck (((32 : Int32) * v1) + v2) 64 (ck v2 5715 (bd (sA V 2 v2.toNatClampNeg (V.2.1 5 (((32 : Int32) * v1) + v2).toNatClampNeg)) (fun V8 => bd (v2 + (1 : Int32)) (fun x9 => (f_X9_takesBack_2 N n) V8 v1 x9))))
def f_X9_takesBack (N : Nat) (V : Vt) (a1 : Int32) : Option Vt := f_X9_takesBack_2 N N V a1 (0 : Int32)
set_option maxHeartbeats 4000000 in
set_option maxRecDepth 100000 in
theorem c_X9_takesBack (l : Launch) (D : va_G) (cy : Nat → ClassId) (ad : Nat → Nat) (A : Nat → Prop) (Kc : State → Prop) (C0 : Cx ad A Kc) (N : Nat) (z : Nat) (V : Vt) (a1 : Int32) (V' : Vt) (h : f_X9_takesBack N V a1 = some V') : Met l yX9_takesBack (mw yX9_takesBack cX9_takesBack 3 none) { frames := 0, cells := 0, slots := 0, locals := 0 } (PreM D cy ad Kc (SM z) V [.ref (ad 0), .int a1]) (QV D cy ad A (SM z) V') 0 0 A := by
  refine ct_go C0 (own := RX9) rfl (by decide) rfl ?_
  intro p e s m below meth c ls H locs X hr hlocks hnm hl w
  have hx := X.1.1
  have hb := X.1.2.1
  have hown := X.2.1
  have hts := X.2.2.1
  have hl : lv_has ls 3 [(0, .ref (ad 0)), (1, .int a1)] := hl
  obtain ⟨G, hG⟩ : ∃ G : Nat → Vt → List (Nat × Value) → List Value → Prop, G = fun pc V lv st => ∀ (H : Heap) (locs : List Loc) (ls : Array Slot), Wd D cy ad A s.heap (SM z) V H locs → lv_has ls 3 lv → W p l e { frames := 0, cells := 0, slots := 0, locals := 0 } s m ([.ref (ad 0), .int a1] : List Value).toArray below meth c H locs 0 0 (MQ below (QV D cy ad A (SM z) V') ([.ref (ad 0), .int a1] : List Value).toArray s 0 0 A) (F0 m pc ls st) := ⟨_, rfl⟩
  have L2 : ∀ (n2 : Nat) (V : Vt) (v1 : Int32) (v2 : Int32), f_X9_takesBack_2 N n2 V v1 v2 = some V' → G 2 V [(0, .ref (ad 0)), (1, .int v1), (2, .int v2)] [] := by
    intro n2
    induction n2 with
    | zero => intro V v1 v2 h; rw [f_X9_takesBack_2] at h; cases h
    | succ n2 ih2 =>
      intro V v1 v2 h
      rw [hG]
      intro H locs ls w hl
      rw [f_X9_takesBack_2] at h
      refine lv_iload_n hx hb dX9_takesBack_2 rfl (lv_at hl 2 rfl) ?_
      refine lv_bipush (v := 32) hx hb dX9_takesBack_3 (by decide) ?_
      refine lv_icmp_ge (tgt := 31) hx hb dX9_takesBack_5 (by decide) (fun c5 => ?_) (fun c5 => ?_)
      · replace h := ifT h c5
        obtain rfl := Option.some.inj h
        exact m_rv X w hr hlocks dX9_takesBack_31
      · replace h := ifF h c5
        refine lv_aload_n hx hb dX9_takesBack_8 rfl (lv_at hl 0 rfl) ?_
        refine m_get X w 0 sm_n0 sm_k0 ci9 2 (by decide) (fvR sm_k0 rfl sm_p2) rfl fl_X9_28 dX9_takesBack_9 ?_
        refine lv_iload_n hx hb dX9_takesBack_12 rfl (lv_at hl 2 rfl) ?_
        refine lv_aload_n hx hb dX9_takesBack_13 rfl (lv_at hl 0 rfl) ?_
        refine m_get X w 0 sm_n0 sm_k0 ci9 5 (by decide) (fvR sm_k0 rfl sm_p5) rfl fl_X9_38 dX9_takesBack_14 ?_
        refine lv_bipush (v := 32) hx hb dX9_takesBack_17 (by decide) ?_
        refine lv_iload_n hx hb dX9_takesBack_19 rfl (lv_at hl 1 rfl) ?_
        refine lv_imul hx hb dX9_takesBack_20 ?_
        refine lv_iload_n hx hb dX9_takesBack_21 rfl (lv_at hl 2 rfl) ?_
        refine lv_iadd hx hb dX9_takesBack_22 ?_
        obtain ⟨g6, h⟩ := cki h
        refine m_iald X w 5 sm_n5 sm_k5 sm_z5 g6 dX9_takesBack_23 ?_
        obtain ⟨g7, h⟩ := cki h
        refine m_iast X w 2 sm_n2 sm_k2 sm_z2 g7 dX9_takesBack_24 (fun V8 H locs eV8 w => ?_)
        replace h := bdi h _ eV8
        obtain ⟨x9, ex9⟩ : ∃ y : Int32, y = v2 + (1 : Int32) := ⟨_, rfl⟩
        replace h := bdi h _ ex9
        refine lv_iinc (v := x9) (lv' := [(2, .int x9), (0, .ref (ad 0)), (1, .int v1)]) hx hb dX9_takesBack_25 hl (k := 2) rfl (by rw [ex9]; rfl) (by decide) rfl (fun ls hl => ?_)
        refine lv_goto (tgt := 2) hx hb dX9_takesBack_28 (by decide) ?_
        have g := ih2 V8 v1 x9 h
        rw [hG] at g
        exact g H locs ls w (lv_sub hl [1, 2, 0] rfl)
  rw [f_X9_takesBack] at h
  refine lv_iconst (v := 0) hx hb dX9_takesBack_0 (by decide) ?_
  refine lv_istore_n (lv' := [(2, .int (0 : Int32)), (0, .ref (ad 0)), (1, .int a1)]) hx hb dX9_takesBack_1 rfl hl (by decide) rfl (fun ls hl => ?_)
  have g := L2 N V a1 (0 : Int32) h
  rw [hG] at g
  exact g H locs ls w (lv_sub hl [1, 2, 0] rfl)
def f_X9_offBy_49 (N : Nat) (V : Vt) (K17 : Int32 → Int32 → Int32 → Int32 → Option Int32) (v1 : Int32) (v3 : Int32) (v4 : Int32) (s0 : Int32) (s1 : Int32) (s3 : Int32) : Option Int32 := ck (s1 + s0) 5715 (bd (s3 - (V.2.1 2 (s1 + s0).toNatClampNeg)) (fun x13 => bd (v4 + (1 : Int32)) (fun x14 => K17 v1 x13 v3 x14)))
def f_X9_offBy_17 (N : Nat) (V : Vt) : Nat → Int32 → Int32 → Int32 → Int32 → Option Int32
  | 0, _, _, _, _ => none
  | n + 1, v1, v2, v3, v4 => if (5 : Int32) ≤ v4 then some v2 else if (5 : Int32) ≤ v1 then f_X9_offBy_49 N V (f_X9_offBy_17 N V n) v1 v3 v4 (((5 : Int32) * v4) + v3) (0 : Int32) v2 else f_X9_offBy_49 N V (f_X9_offBy_17 N V n) v1 v3 v4 (((5 : Int32) * v3) + v4) (0 : Int32) v2
def f_X9_offBy (N : Nat) (V : Vt) (a1 : Int32) : Option Int32 := ck ((32 : Int32) + a1) 5715 (bd (V.2.1 2 ((32 : Int32) + a1).toNatClampNeg) (fun x8 => bd (a1 - a1 / (5 : Int32) * (5 : Int32)) (fun x9 => f_X9_offBy_17 N V N a1 x8 x9 (0 : Int32))))
set_option maxHeartbeats 4000000 in
set_option maxRecDepth 100000 in
theorem c_X9_offBy (l : Launch) (D : va_G) (cy : Nat → ClassId) (ad : Nat → Nat) (A : Nat → Prop) (Kc : State → Prop) (C0 : Cx ad A Kc) (N : Nat) (z : Nat) (V : Vt) (a1 : Int32) (r : Int32) (h : f_X9_offBy N V a1 = some r) : Met l yX9_offBy (mw yX9_offBy cX9_offBy 5 (some .int)) { frames := 0, cells := 0, slots := 0, locals := 0 } (PreM D cy ad Kc (SM z) V [.ref (ad 0), .int a1]) (QI D cy ad A r (SM z) V) 0 0 A := by
  refine ct_go C0 (own := RX9) rfl (by decide) rfl ?_
  intro p e s m below meth c ls H locs X hr hlocks hnm hl w
  have hx := X.1.1
  have hb := X.1.2.1
  have hown := X.2.1
  have hts := X.2.2.1
  have hl : lv_has ls 5 [(0, .ref (ad 0)), (1, .int a1)] := hl
  obtain ⟨G, hG⟩ : ∃ G : Nat → Vt → List (Nat × Value) → List Value → Prop, G = fun pc V lv st => ∀ (H : Heap) (locs : List Loc) (ls : Array Slot), Wd D cy ad A s.heap (SM z) V H locs → lv_has ls 5 lv → W p l e { frames := 0, cells := 0, slots := 0, locals := 0 } s m ([.ref (ad 0), .int a1] : List Value).toArray below meth c H locs 0 0 (MQ below (QI D cy ad A r (SM z) V) ([.ref (ad 0), .int a1] : List Value).toArray s 0 0 A) (F0 m pc ls st) := ⟨_, rfl⟩
  have L17 : ∀ (n17 : Nat) (v1 : Int32) (v2 : Int32) (v3 : Int32) (v4 : Int32), f_X9_offBy_17 N V n17 v1 v2 v3 v4 = some r → G 17 V [(0, .ref (ad 0)), (1, .int v1), (2, .int v2), (3, .int v3), (4, .int v4)] [] := by
    intro n17
    induction n17 with
    | zero => intro v1 v2 v3 v4 h; rw [f_X9_offBy_17] at h; cases h
    | succ n17 ih17 =>
      have B49 : ∀ (v1 : Int32) (v3 : Int32) (v4 : Int32) (s0 : Int32) (s1 : Int32) (s3 : Int32), f_X9_offBy_49 N V (f_X9_offBy_17 N V n17) v1 v3 v4 s0 s1 s3 = some r → G 49 V [(0, .ref (ad 0)), (1, .int v1), (3, .int v3), (4, .int v4)] [.int s0, .int s1, .ref (ad 2), .int s3] := by
        intro v1 v3 v4 s0 s1 s3 h
        rw [hG]
        intro H locs ls w hl
        rw [f_X9_offBy_49] at h
        refine lv_iadd hx hb dX9_offBy_49 ?_
        obtain ⟨g12, h⟩ := cki h
        refine m_iald X w 2 sm_n2 sm_k2 sm_z2 g12 dX9_offBy_50 ?_
        refine lv_isub hx hb dX9_offBy_51 ?_
        refine lv_topi (fun x13 ex13 => ?_)
        replace h := bdi h _ ex13
        refine lv_istore_n (lv' := [(2, .int x13), (0, .ref (ad 0)), (1, .int v1), (3, .int v3), (4, .int v4)]) hx hb dX9_offBy_52 rfl hl (by decide) rfl (fun ls hl => ?_)
        obtain ⟨x14, ex14⟩ : ∃ y : Int32, y = v4 + (1 : Int32) := ⟨_, rfl⟩
        replace h := bdi h _ ex14
        refine lv_iinc (v := x14) (lv' := [(4, .int x14), (2, .int x13), (0, .ref (ad 0)), (1, .int v1), (3, .int v3)]) hx hb dX9_offBy_53 hl (k := 4) rfl (by rw [ex14]; rfl) (by decide) rfl (fun ls hl => ?_)
        refine lv_goto (tgt := 17) hx hb dX9_offBy_56 (by decide) ?_
        have g := ih17 v1 x13 v3 x14 h
        rw [hG] at g
        exact g H locs ls w (lv_sub hl [2, 3, 1, 4, 0] rfl)
      intro v1 v2 v3 v4 h
      rw [hG]
      intro H locs ls w hl
      rw [f_X9_offBy_17] at h
      refine lv_iload hx hb dX9_offBy_17 (lv_at hl 4 rfl) ?_
      refine lv_iconst (v := 5) hx hb dX9_offBy_19 (by decide) ?_
      refine lv_icmp_ge (tgt := 59) hx hb dX9_offBy_20 (by decide) (fun c10 => ?_) (fun c10 => ?_)
      · replace h := ifT h c10
        refine lv_iload_n hx hb dX9_offBy_59 rfl (lv_at hl 2 rfl) ?_
        obtain rfl := Option.some.inj h
        exact m_ri X w hr hlocks dX9_offBy_60
      · replace h := ifF h c10
        refine lv_iload_n hx hb dX9_offBy_23 rfl (lv_at hl 2 rfl) ?_
        refine lv_aload_n hx hb dX9_offBy_24 rfl (lv_at hl 0 rfl) ?_
        refine m_get X w 0 sm_n0 sm_k0 ci9 2 (by decide) (fvR sm_k0 rfl sm_p2) rfl fl_X9_28 dX9_offBy_25 ?_
        refine lv_iconst (v := 0) hx hb dX9_offBy_28 (by decide) ?_
        refine lv_iload_n hx hb dX9_offBy_29 rfl (lv_at hl 1 rfl) ?_
        refine lv_iconst (v := 5) hx hb dX9_offBy_30 (by decide) ?_
        refine lv_icmp_ge (tgt := 43) hx hb dX9_offBy_31 (by decide) (fun c11 => ?_) (fun c11 => ?_)
        · replace h := ifT h c11
          refine lv_iconst (v := 5) hx hb dX9_offBy_43 (by decide) ?_
          refine lv_iload hx hb dX9_offBy_44 (lv_at hl 4 rfl) ?_
          refine lv_imul hx hb dX9_offBy_46 ?_
          refine lv_iload_n hx hb dX9_offBy_47 rfl (lv_at hl 3 rfl) ?_
          refine lv_iadd hx hb dX9_offBy_48 ?_
          have g := B49 v1 v3 v4 (((5 : Int32) * v4) + v3) (0 : Int32) v2 h
          rw [hG] at g
          exact g H locs ls w (lv_sub hl [0, 1, 3, 4] rfl)
        · replace h := ifF h c11
          refine lv_iconst (v := 5) hx hb dX9_offBy_34 (by decide) ?_
          refine lv_iload_n hx hb dX9_offBy_35 rfl (lv_at hl 3 rfl) ?_
          refine lv_imul hx hb dX9_offBy_36 ?_
          refine lv_iload hx hb dX9_offBy_37 (lv_at hl 4 rfl) ?_
          refine lv_iadd hx hb dX9_offBy_39 ?_
          refine lv_goto (tgt := 49) hx hb dX9_offBy_40 (by decide) ?_
          have g := B49 v1 v3 v4 (((5 : Int32) * v3) + v4) (0 : Int32) v2 h
          rw [hG] at g
          exact g H locs ls w (lv_sub hl [0, 1, 3, 4] rfl)
  rw [f_X9_offBy] at h
  refine lv_aload_n hx hb dX9_offBy_0 rfl (lv_at hl 0 rfl) ?_
  refine m_get X w 0 sm_n0 sm_k0 ci9 2 (by decide) (fvR sm_k0 rfl sm_p2) rfl fl_X9_28 dX9_offBy_1 ?_
  refine lv_bipush (v := 32) hx hb dX9_offBy_4 (by decide) ?_
  refine lv_iload_n hx hb dX9_offBy_6 rfl (lv_at hl 1 rfl) ?_
  refine lv_iadd hx hb dX9_offBy_7 ?_
  obtain ⟨g7, h⟩ := cki h
  refine m_iald X w 2 sm_n2 sm_k2 sm_z2 g7 dX9_offBy_8 ?_
  refine lv_topi (fun x8 ex8 => ?_)
  replace h := bdi h _ ex8
  refine lv_istore_n (lv' := [(2, .int x8), (0, .ref (ad 0)), (1, .int a1)]) hx hb dX9_offBy_9 rfl hl (by decide) rfl (fun ls hl => ?_)
  refine lv_iload_n hx hb dX9_offBy_10 rfl (lv_at hl 2 rfl) ?_
  refine lv_iconst (v := 5) hx hb dX9_offBy_11 (by decide) ?_
  refine lv_irem hx hb dX9_offBy_12 (by decide) ?_
  refine lv_topi (fun x9 ex9 => ?_)
  replace h := bdi h _ ex9
  refine lv_istore_n (lv' := [(3, .int x9), (2, .int x8), (0, .ref (ad 0)), (1, .int a1)]) hx hb dX9_offBy_13 rfl hl (by decide) rfl (fun ls hl => ?_)
  refine lv_iconst (v := 0) hx hb dX9_offBy_14 (by decide) ?_
  refine lv_istore (lv' := [(4, .int (0 : Int32)), (3, .int x9), (2, .int x8), (0, .ref (ad 0)), (1, .int a1)]) hx hb dX9_offBy_15 hl (by decide) rfl (fun ls hl => ?_)
  have g := L17 N a1 x8 x9 (0 : Int32) h
  rw [hG] at g
  exact g H locs ls w (lv_sub hl [3, 4, 2, 1, 0] rfl)
def f_X9_termAt (N : Nat) (a1 : Int32) : Option Int32 := if a1 = 0 then some (31 : Int32) else if a1 = (1 : Int32) then some (101 : Int32) else some (102 : Int32)
set_option maxHeartbeats 4000000 in
set_option maxRecDepth 100000 in
theorem c_X9_termAt (l : Launch) (D : va_G) (cy : Nat → ClassId) (ad : Nat → Nat) (A : Nat → Prop) (Kc : State → Prop) (C0 : Cx ad A Kc) (N : Nat) (z : Nat) (V : Vt) (a1 : Int32) (r : Int32) (h : f_X9_termAt N a1 = some r) : Met l yX9_termAt (mw yX9_termAt cX9_termAt 1 (some .int)) { frames := 0, cells := 0, slots := 0, locals := 0 } (PreM D cy ad Kc (SM z) V [.int a1]) (QI D cy ad A r (SM z) V) 0 0 A := by
  refine ct_go C0 (own := RX9) rfl (by decide) rfl ?_
  intro p e s m below meth c ls H locs X hr hlocks hnm hl w
  have hx := X.1.1
  have hb := X.1.2.1
  have hown := X.2.1
  have hts := X.2.2.1
  have hl : lv_has ls 1 [(0, .int a1)] := hl
  rw [f_X9_termAt] at h
  refine lv_iload_n hx hb dX9_termAt_0 rfl (lv_at hl 0 rfl) ?_
  refine lv_if_ne (tgt := 9) hx hb dX9_termAt_1 (by decide) (fun c1 => ?_) (fun c1 => ?_)
  · replace h := ifF h c1
    refine lv_iload_n hx hb dX9_termAt_9 rfl (lv_at hl 0 rfl) ?_
    refine lv_iconst (v := 1) hx hb dX9_termAt_10 (by decide) ?_
    refine lv_icmp_ne (tgt := 19) hx hb dX9_termAt_11 (by decide) (fun c2 => ?_) (fun c2 => ?_)
    · replace h := ifF h c2
      refine lv_bipush (v := 102) hx hb dX9_termAt_19 (by decide) ?_
      obtain rfl := Option.some.inj h
      exact m_ri X w hr hlocks dX9_termAt_21
    · replace h := ifT h c2
      refine lv_bipush (v := 101) hx hb dX9_termAt_14 (by decide) ?_
      refine lv_goto (tgt := 21) hx hb dX9_termAt_16 (by decide) ?_
      obtain rfl := Option.some.inj h
      exact m_ri X w hr hlocks dX9_termAt_21
  · replace h := ifT h c1
    refine lv_bipush (v := 31) hx hb dX9_termAt_4 (by decide) ?_
    refine lv_goto (tgt := 21) hx hb dX9_termAt_6 (by decide) ?_
    obtain rfl := Option.some.inj h
    exact m_ri X w hr hlocks dX9_termAt_21
def f_X9_smudges (N : Nat) (V : Vt) : Option Int32 := some (V.1 0 6)
set_option maxHeartbeats 4000000 in
set_option maxRecDepth 100000 in
theorem c_X9_smudges (l : Launch) (D : va_G) (cy : Nat → ClassId) (ad : Nat → Nat) (A : Nat → Prop) (Kc : State → Prop) (C0 : Cx ad A Kc) (N : Nat) (z : Nat) (V : Vt) (r : Int32) (h : f_X9_smudges N V = some r) : Met l yX9_smudges (mw yX9_smudges cX9_smudges 1 (some .int)) { frames := 0, cells := 0, slots := 0, locals := 0 } (PreM D cy ad Kc (SM z) V [.ref (ad 0)]) (QI D cy ad A r (SM z) V) 0 0 A := by
  refine ct_go C0 (own := RX9) rfl (by decide) rfl ?_
  intro p e s m below meth c ls H locs X hr hlocks hnm hl w
  have hx := X.1.1
  have hb := X.1.2.1
  have hown := X.2.1
  have hts := X.2.2.1
  have hl : lv_has ls 1 [(0, .ref (ad 0))] := hl
  rw [f_X9_smudges] at h
  refine lv_aload_n hx hb dX9_smudges_0 rfl (lv_at hl 0 rfl) ?_
  refine m_get X w 0 sm_n0 sm_k0 ci9 6 (by decide) (fvI sm_k0 rfl) rfl fl_X9_155 dX9_smudges_1 ?_
  obtain rfl := Option.some.inj h
  exact m_ri X w hr hlocks dX9_smudges_4
def f_X9_feed_55 (N : Nat) : Nat → Vt → Int32 → Option (Int32 × Vt)
  | 0, _, _ => none
  | n + 1, V, v6 => if (20 : Int32) ≤ v6 then bd (sF V 0 13 ((V.1 0 13) + (20 : Int32))) (fun V28 => some (V28.1 0 13, V28)) else ck (v6 / (4 : Int32)) 5 (ck ((V.1 0 13) + v6) 400 (bd (sA V 7 ((V.1 0 13) + v6).toNatClampNeg (vp_nar .byte (((V.2.1 8 (v6 / (4 : Int32)).toNatClampNeg) >>> (((24 : Int32) - ((8 : Int32) * (v6 - v6 / (4 : Int32) * (4 : Int32)))) &&& 31)).toInt8.toInt32))) (fun V31 => bd (v6 + (1 : Int32)) (fun x32 => (f_X9_feed_55 N n) V31 x32))))
def f_X9_feed (N : Nat) (V : Vt) (a1 : Int32) (a2 : Int32) (a3 : Int32) (a4 : Int32) (a5 : Int32) : Option (Int32 × Vt) := if ((V.1 0 13) + (20 : Int32)) ≤ (400 : Int32) then ck (0 : Int32) 5 (bd (sA V 8 (0 : Int32).toNatClampNeg a1) (fun V18 => ck (1 : Int32) 5 (bd (sA V18 8 (1 : Int32).toNatClampNeg a2) (fun V20 => ck (2 : Int32) 5 (bd (sA V20 8 (2 : Int32).toNatClampNeg a3) (fun V22 => ck (3 : Int32) 5 (bd (sA V22 8 (3 : Int32).toNatClampNeg a4) (fun V24 => ck (4 : Int32) 5 (bd (sA V24 8 (4 : Int32).toNatClampNeg a5) (fun V26 => f_X9_feed_55 N N V26 (0 : Int32))))))))))) else some ((-1 : Int32), V)
set_option maxHeartbeats 4000000 in
set_option maxRecDepth 100000 in
theorem c_X9_feed (l : Launch) (D : va_G) (cy : Nat → ClassId) (ad : Nat → Nat) (A : Nat → Prop) (Kc : State → Prop) (C0 : Cx ad A Kc) (N : Nat) (z : Nat) (V : Vt) (a1 : Int32) (a2 : Int32) (a3 : Int32) (a4 : Int32) (a5 : Int32) (r : Int32) (V' : Vt) (h : f_X9_feed N V a1 a2 a3 a4 a5 = some (r, V')) : Met l yX9_feed (mw yX9_feed cX9_feed 7 (some .int)) { frames := 0, cells := 0, slots := 0, locals := 0 } (PreM D cy ad Kc (SM z) V [.ref (ad 0), .int a1, .int a2, .int a3, .int a4, .int a5]) (QI D cy ad A r (SM z) V') 0 0 A := by
  refine ct_go C0 (own := RX9) rfl (by decide) rfl ?_
  intro p e s m below meth c ls H locs X hr hlocks hnm hl w
  have hx := X.1.1
  have hb := X.1.2.1
  have hown := X.2.1
  have hts := X.2.2.1
  have hl : lv_has ls 7 [(0, .ref (ad 0)), (1, .int a1), (2, .int a2), (3, .int a3), (4, .int a4), (5, .int a5)] := hl
  obtain ⟨G, hG⟩ : ∃ G : Nat → Vt → List (Nat × Value) → List Value → Prop, G = fun pc V lv st => ∀ (H : Heap) (locs : List Loc) (ls : Array Slot), Wd D cy ad A s.heap (SM z) V H locs → lv_has ls 7 lv → W p l e { frames := 0, cells := 0, slots := 0, locals := 0 } s m ([.ref (ad 0), .int a1, .int a2, .int a3, .int a4, .int a5] : List Value).toArray below meth c H locs 0 0 (MQ below (QI D cy ad A r (SM z) V') ([.ref (ad 0), .int a1, .int a2, .int a3, .int a4, .int a5] : List Value).toArray s 0 0 A) (F0 m pc ls st) := ⟨_, rfl⟩
  have L55 : ∀ (n55 : Nat) (V : Vt) (v6 : Int32), f_X9_feed_55 N n55 V v6 = some (r, V') → G 55 V [(0, .ref (ad 0)), (6, .int v6)] [] := by
    intro n55
    induction n55 with
    | zero => intro V v6 h; rw [f_X9_feed_55] at h; cases h
    | succ n55 ih55 =>
      intro V v6 h
      rw [hG]
      intro H locs ls w hl
      rw [f_X9_feed_55] at h
      refine lv_iload hx hb dX9_feed_55 (lv_at hl 1 rfl) ?_
      refine lv_bipush (v := 20) hx hb dX9_feed_57 (by decide) ?_
      refine lv_icmp_ge (tgt := 101) hx hb dX9_feed_59 (by decide) (fun c27 => ?_) (fun c27 => ?_)
      · replace h := ifT h c27
        refine lv_aload_n hx hb dX9_feed_101 rfl (lv_at hl 0 rfl) ?_
        refine lv_dup hx hb dX9_feed_102 rfl ?_
        refine m_get X w 0 sm_n0 sm_k0 ci9 13 (by decide) (fvI sm_k0 rfl) rfl fl_X9_152 dX9_feed_103 ?_
        refine lv_bipush (v := 20) hx hb dX9_feed_106 (by decide) ?_
        refine lv_iadd hx hb dX9_feed_108 ?_
        refine m_put X w 0 sm_n0 sm_k0 ci9 13 (by decide) rfl rfl rfl rfl rfl fl_X9_152 dX9_feed_109 (fun V28 H locs eV28 w => ?_)
        replace h := bdi h _ eV28
        refine lv_aload_n hx hb dX9_feed_112 rfl (lv_at hl 0 rfl) ?_
        refine m_get X w 0 sm_n0 sm_k0 ci9 13 (by decide) (fvI sm_k0 rfl) rfl fl_X9_152 dX9_feed_113 ?_
        obtain ⟨rfl, rfl⟩ := reti h
        exact m_ri X w hr hlocks dX9_feed_116
      · replace h := ifF h c27
        refine lv_aload_n hx hb dX9_feed_62 rfl (lv_at hl 0 rfl) ?_
        refine m_get X w 0 sm_n0 sm_k0 ci9 11 (by decide) (fvR sm_k0 rfl sm_p11) rfl fl_X9_45 dX9_feed_63 ?_
        refine lv_aload_n hx hb dX9_feed_66 rfl (lv_at hl 0 rfl) ?_
        refine m_get X w 0 sm_n0 sm_k0 ci9 13 (by decide) (fvI sm_k0 rfl) rfl fl_X9_152 dX9_feed_67 ?_
        refine lv_iload hx hb dX9_feed_70 (lv_at hl 1 rfl) ?_
        refine lv_iadd hx hb dX9_feed_72 ?_
        refine lv_aload_n hx hb dX9_feed_73 rfl (lv_at hl 0 rfl) ?_
        refine m_get X w 0 sm_n0 sm_k0 ci9 12 (by decide) (fvR sm_k0 rfl sm_p12) rfl fl_X9_48 dX9_feed_74 ?_
        refine lv_iload hx hb dX9_feed_77 (lv_at hl 1 rfl) ?_
        refine lv_iconst (v := 4) hx hb dX9_feed_79 (by decide) ?_
        refine lv_idiv hx hb dX9_feed_80 (by decide) ?_
        obtain ⟨g29, h⟩ := cki h
        refine m_iald X w 8 sm_n8 sm_k8 sm_z8 g29 dX9_feed_81 ?_
        refine lv_bipush (v := 24) hx hb dX9_feed_82 (by decide) ?_
        refine lv_bipush (v := 8) hx hb dX9_feed_84 (by decide) ?_
        refine lv_iload hx hb dX9_feed_86 (lv_at hl 1 rfl) ?_
        refine lv_iconst (v := 4) hx hb dX9_feed_88 (by decide) ?_
        refine lv_irem hx hb dX9_feed_89 (by decide) ?_
        refine lv_imul hx hb dX9_feed_90 ?_
        refine lv_isub hx hb dX9_feed_91 ?_
        refine lv_ishr hx hb dX9_feed_92 ?_
        refine lv_i2b hx hb dX9_feed_93 rfl ?_
        obtain ⟨g30, h⟩ := cki h
        refine m_bast X w 7 sm_n7 sm_k7 sm_z7 g30 dX9_feed_94 (fun V31 H locs eV31 w => ?_)
        replace h := bdi h _ eV31
        obtain ⟨x32, ex32⟩ : ∃ y : Int32, y = v6 + (1 : Int32) := ⟨_, rfl⟩
        replace h := bdi h _ ex32
        refine lv_iinc (v := x32) (lv' := [(6, .int x32), (0, .ref (ad 0))]) hx hb dX9_feed_95 hl (k := 1) rfl (by rw [ex32]; rfl) (by decide) rfl (fun ls hl => ?_)
        refine lv_goto (tgt := 55) hx hb dX9_feed_98 (by decide) ?_
        have g := ih55 V31 x32 h
        rw [hG] at g
        exact g H locs ls w (lv_sub hl [1, 0] rfl)
  rw [f_X9_feed] at h
  refine lv_aload_n hx hb dX9_feed_0 rfl (lv_at hl 0 rfl) ?_
  refine m_get X w 0 sm_n0 sm_k0 ci9 13 (by decide) (fvI sm_k0 rfl) rfl fl_X9_152 dX9_feed_1 ?_
  refine lv_bipush (v := 20) hx hb dX9_feed_4 (by decide) ?_
  refine lv_iadd hx hb dX9_feed_6 ?_
  refine lv_sipush (v := 400) hx hb dX9_feed_7 (by decide) ?_
  refine lv_icmp_le (tgt := 15) hx hb dX9_feed_10 (by decide) (fun c16 => ?_) (fun c16 => ?_)
  · replace h := ifT h c16
    refine lv_aload_n hx hb dX9_feed_15 rfl (lv_at hl 0 rfl) ?_
    refine m_get X w 0 sm_n0 sm_k0 ci9 12 (by decide) (fvR sm_k0 rfl sm_p12) rfl fl_X9_48 dX9_feed_16 ?_
    refine lv_iconst (v := 0) hx hb dX9_feed_19 (by decide) ?_
    refine lv_iload_n hx hb dX9_feed_20 rfl (lv_at hl 1 rfl) ?_
    obtain ⟨g17, h⟩ := cki h
    refine m_iast X w 8 sm_n8 sm_k8 sm_z8 g17 dX9_feed_21 (fun V18 H locs eV18 w => ?_)
    replace h := bdi h _ eV18
    refine lv_aload_n hx hb dX9_feed_22 rfl (lv_at hl 0 rfl) ?_
    refine m_get X w 0 sm_n0 sm_k0 ci9 12 (by decide) (fvR sm_k0 rfl sm_p12) rfl fl_X9_48 dX9_feed_23 ?_
    refine lv_iconst (v := 1) hx hb dX9_feed_26 (by decide) ?_
    refine lv_iload_n hx hb dX9_feed_27 rfl (lv_at hl 2 rfl) ?_
    obtain ⟨g19, h⟩ := cki h
    refine m_iast X w 8 sm_n8 sm_k8 sm_z8 g19 dX9_feed_28 (fun V20 H locs eV20 w => ?_)
    replace h := bdi h _ eV20
    refine lv_aload_n hx hb dX9_feed_29 rfl (lv_at hl 0 rfl) ?_
    refine m_get X w 0 sm_n0 sm_k0 ci9 12 (by decide) (fvR sm_k0 rfl sm_p12) rfl fl_X9_48 dX9_feed_30 ?_
    refine lv_iconst (v := 2) hx hb dX9_feed_33 (by decide) ?_
    refine lv_iload_n hx hb dX9_feed_34 rfl (lv_at hl 3 rfl) ?_
    obtain ⟨g21, h⟩ := cki h
    refine m_iast X w 8 sm_n8 sm_k8 sm_z8 g21 dX9_feed_35 (fun V22 H locs eV22 w => ?_)
    replace h := bdi h _ eV22
    refine lv_aload_n hx hb dX9_feed_36 rfl (lv_at hl 0 rfl) ?_
    refine m_get X w 0 sm_n0 sm_k0 ci9 12 (by decide) (fvR sm_k0 rfl sm_p12) rfl fl_X9_48 dX9_feed_37 ?_
    refine lv_iconst (v := 3) hx hb dX9_feed_40 (by decide) ?_
    refine lv_iload hx hb dX9_feed_41 (lv_at hl 4 rfl) ?_
    obtain ⟨g23, h⟩ := cki h
    refine m_iast X w 8 sm_n8 sm_k8 sm_z8 g23 dX9_feed_43 (fun V24 H locs eV24 w => ?_)
    replace h := bdi h _ eV24
    refine lv_aload_n hx hb dX9_feed_44 rfl (lv_at hl 0 rfl) ?_
    refine m_get X w 0 sm_n0 sm_k0 ci9 12 (by decide) (fvR sm_k0 rfl sm_p12) rfl fl_X9_48 dX9_feed_45 ?_
    refine lv_iconst (v := 4) hx hb dX9_feed_48 (by decide) ?_
    refine lv_iload hx hb dX9_feed_49 (lv_at hl 5 rfl) ?_
    obtain ⟨g25, h⟩ := cki h
    refine m_iast X w 8 sm_n8 sm_k8 sm_z8 g25 dX9_feed_51 (fun V26 H locs eV26 w => ?_)
    replace h := bdi h _ eV26
    refine lv_iconst (v := 0) hx hb dX9_feed_52 (by decide) ?_
    refine lv_istore (lv' := [(6, .int (0 : Int32)), (0, .ref (ad 0)), (1, .int a1), (2, .int a2), (3, .int a3), (4, .int a4), (5, .int a5)]) hx hb dX9_feed_53 hl (by decide) rfl (fun ls hl => ?_)
    have g := L55 N V26 (0 : Int32) h
    rw [hG] at g
    exact g H locs ls w (lv_sub hl [1, 0] rfl)
  · replace h := ifF h c16
    refine lv_iconst (v := (-1)) hx hb dX9_feed_13 (by decide) ?_
    obtain ⟨rfl, rfl⟩ := reti h
    exact m_ri X w hr hlocks dX9_feed_14
def f_X9_isSmall (N : Nat) (a1 : Int32) : Option Int32 := if a1 < (97 : Int32) then some (0 : Int32) else if (122 : Int32) < a1 then some (0 : Int32) else some (1 : Int32)
set_option maxHeartbeats 4000000 in
set_option maxRecDepth 100000 in
theorem c_X9_isSmall (l : Launch) (D : va_G) (cy : Nat → ClassId) (ad : Nat → Nat) (A : Nat → Prop) (Kc : State → Prop) (C0 : Cx ad A Kc) (N : Nat) (z : Nat) (V : Vt) (a1 : Int32) (r : Int32) (h : f_X9_isSmall N a1 = some r) : Met l yX9_isSmall (mw yX9_isSmall cX9_isSmall 1 (some .boolean)) { frames := 0, cells := 0, slots := 0, locals := 0 } (PreM D cy ad Kc (SM z) V [.int a1]) (QI D cy ad A r (SM z) V) 0 0 A := by
  refine ct_go C0 (own := RX9) rfl (by decide) rfl ?_
  intro p e s m below meth c ls H locs X hr hlocks hnm hl w
  have hx := X.1.1
  have hb := X.1.2.1
  have hown := X.2.1
  have hts := X.2.2.1
  have hl : lv_has ls 1 [(0, .int a1)] := hl
  rw [f_X9_isSmall] at h
  refine lv_iload_n hx hb dX9_isSmall_0 rfl (lv_at hl 0 rfl) ?_
  refine lv_bipush (v := 97) hx hb dX9_isSmall_1 (by decide) ?_
  refine lv_icmp_lt (tgt := 16) hx hb dX9_isSmall_3 (by decide) (fun c1 => ?_) (fun c1 => ?_)
  · replace h := ifT h c1
    refine lv_iconst (v := 0) hx hb dX9_isSmall_16 (by decide) ?_
    obtain rfl := Option.some.inj h
    exact m_rz X w hr rfl hlocks dX9_isSmall_17
  · replace h := ifF h c1
    refine lv_iload_n hx hb dX9_isSmall_6 rfl (lv_at hl 0 rfl) ?_
    refine lv_bipush (v := 122) hx hb dX9_isSmall_7 (by decide) ?_
    refine lv_icmp_gt (tgt := 16) hx hb dX9_isSmall_9 (by decide) (fun c2 => ?_) (fun c2 => ?_)
    · replace h := ifT h c2
      refine lv_iconst (v := 0) hx hb dX9_isSmall_16 (by decide) ?_
      obtain rfl := Option.some.inj h
      exact m_rz X w hr rfl hlocks dX9_isSmall_17
    · replace h := ifF h c2
      refine lv_iconst (v := 1) hx hb dX9_isSmall_12 (by decide) ?_
      refine lv_goto (tgt := 17) hx hb dX9_isSmall_13 (by decide) ?_
      obtain rfl := Option.some.inj h
      exact m_rz X w hr rfl hlocks dX9_isSmall_17
def f_X9_isDigit (N : Nat) (a1 : Int32) : Option Int32 := if a1 < (48 : Int32) then some (0 : Int32) else if (57 : Int32) < a1 then some (0 : Int32) else some (1 : Int32)
set_option maxHeartbeats 4000000 in
set_option maxRecDepth 100000 in
theorem c_X9_isDigit (l : Launch) (D : va_G) (cy : Nat → ClassId) (ad : Nat → Nat) (A : Nat → Prop) (Kc : State → Prop) (C0 : Cx ad A Kc) (N : Nat) (z : Nat) (V : Vt) (a1 : Int32) (r : Int32) (h : f_X9_isDigit N a1 = some r) : Met l yX9_isDigit (mw yX9_isDigit cX9_isDigit 1 (some .boolean)) { frames := 0, cells := 0, slots := 0, locals := 0 } (PreM D cy ad Kc (SM z) V [.int a1]) (QI D cy ad A r (SM z) V) 0 0 A := by
  refine ct_go C0 (own := RX9) rfl (by decide) rfl ?_
  intro p e s m below meth c ls H locs X hr hlocks hnm hl w
  have hx := X.1.1
  have hb := X.1.2.1
  have hown := X.2.1
  have hts := X.2.2.1
  have hl : lv_has ls 1 [(0, .int a1)] := hl
  rw [f_X9_isDigit] at h
  refine lv_iload_n hx hb dX9_isDigit_0 rfl (lv_at hl 0 rfl) ?_
  refine lv_bipush (v := 48) hx hb dX9_isDigit_1 (by decide) ?_
  refine lv_icmp_lt (tgt := 16) hx hb dX9_isDigit_3 (by decide) (fun c1 => ?_) (fun c1 => ?_)
  · replace h := ifT h c1
    refine lv_iconst (v := 0) hx hb dX9_isDigit_16 (by decide) ?_
    obtain rfl := Option.some.inj h
    exact m_rz X w hr rfl hlocks dX9_isDigit_17
  · replace h := ifF h c1
    refine lv_iload_n hx hb dX9_isDigit_6 rfl (lv_at hl 0 rfl) ?_
    refine lv_bipush (v := 57) hx hb dX9_isDigit_7 (by decide) ?_
    refine lv_icmp_gt (tgt := 16) hx hb dX9_isDigit_9 (by decide) (fun c2 => ?_) (fun c2 => ?_)
    · replace h := ifT h c2
      refine lv_iconst (v := 0) hx hb dX9_isDigit_16 (by decide) ?_
      obtain rfl := Option.some.inj h
      exact m_rz X w hr rfl hlocks dX9_isDigit_17
    · replace h := ifF h c2
      refine lv_iconst (v := 1) hx hb dX9_isDigit_12 (by decide) ?_
      refine lv_goto (tgt := 17) hx hb dX9_isDigit_13 (by decide) ?_
      obtain rfl := Option.some.inj h
      exact m_rz X w hr rfl hlocks dX9_isDigit_17
def f_X9_wordOf_104 (N : Nat) (V : Vt) (K5 : Int32 → Int32 → Int32 → Int32 → Option Int32) (v1 : Int32) (v2 : Int32) (v3 : Int32) (v4 : Int32) (v5 : Int32) (v6 : Int32) : Option Int32 := if v6 = 0 then bd (v4 + (v5 + (1 : Int32))) (fun x14 => bd (v3 + (1 : Int32)) (fun x15 => K5 v1 v2 x15 x14)) else some v3
def f_X9_wordOf_96 (N : Nat) (V : Vt) (K57 : Int32 → Int32 → Int32 → Int32 → Int32 → Int32 → Int32 → Option Int32) (v1 : Int32) (v2 : Int32) (v3 : Int32) (v4 : Int32) (v5 : Int32) (v7 : Int32) (s0 : Int32) : Option Int32 := bd (v7 + (1 : Int32)) (fun x20 => K57 v1 v2 v3 v4 v5 s0 x20)
def f_X9_wordOf_57 (N : Nat) (V : Vt) (K5 : Int32 → Int32 → Int32 → Int32 → Option Int32) : Nat → Int32 → Int32 → Int32 → Int32 → Int32 → Int32 → Int32 → Option Int32
  | 0, _, _, _, _, _, _, _ => none
  | n + 1, v1, v2, v3, v4, v5, v6, v7 => if v5 ≤ v7 then f_X9_wordOf_104 N V K5 v1 v2 v3 v4 v5 v6 else if v6 = 0 then f_X9_wordOf_104 N V K5 v1 v2 v3 v4 v5 v6 else ck (v4 + v7) 144 (ck (v1 + v7) 400 (if (V.2.1 6 (v4 + v7).toNatClampNeg) = (V.2.1 7 (v1 + v7).toNatClampNeg) then f_X9_wordOf_96 N V (f_X9_wordOf_57 N V K5 n) v1 v2 v3 v4 v5 v7 (1 : Int32) else f_X9_wordOf_96 N V (f_X9_wordOf_57 N V K5 n) v1 v2 v3 v4 v5 v7 (0 : Int32)))
def f_X9_wordOf_52 (N : Nat) (V : Vt) (K5 : Int32 → Int32 → Int32 → Int32 → Option Int32) (v1 : Int32) (v2 : Int32) (v3 : Int32) (v4 : Int32) (v5 : Int32) (s0 : Int32) : Option Int32 := f_X9_wordOf_57 N V K5 N v1 v2 v3 v4 v5 s0 (0 : Int32)
def f_X9_wordOf_18 (N : Nat) (V : Vt) (K5 : Int32 → Int32 → Int32 → Int32 → Option Int32) : Nat → Int32 → Int32 → Int32 → Int32 → Int32 → Option Int32
  | 0, _, _, _, _, _ => none
  | n + 1, v1, v2, v3, v4, v5 => ck (v4 + v5) 144 (if (V.2.1 6 (v4 + v5).toNatClampNeg) = (32 : Int32) then if v5 = (v2 - v1) then f_X9_wordOf_52 N V K5 v1 v2 v3 v4 v5 (1 : Int32) else f_X9_wordOf_52 N V K5 v1 v2 v3 v4 v5 (0 : Int32) else bd (v5 + (1 : Int32)) (fun x21 => (f_X9_wordOf_18 N V K5 n) v1 v2 v3 v4 x21))
def f_X9_wordOf_5 (N : Nat) (V : Vt) : Nat → Int32 → Int32 → Int32 → Int32 → Option Int32
  | 0, _, _, _, _ => none
  | n + 1, v1, v2, v3, v4 => if (144 : Int32) ≤ v4 then some (0 : Int32) else f_X9_wordOf_18 N V (f_X9_wordOf_5 N V n) N v1 v2 v3 v4 (0 : Int32)
def f_X9_wordOf (N : Nat) (V : Vt) (a1 : Int32) (a2 : Int32) : Option Int32 := f_X9_wordOf_5 N V N a1 a2 (1 : Int32) (0 : Int32)
set_option maxHeartbeats 4000000 in
set_option maxRecDepth 100000 in
theorem c_X9_wordOf (l : Launch) (D : va_G) (cy : Nat → ClassId) (ad : Nat → Nat) (A : Nat → Prop) (Kc : State → Prop) (C0 : Cx ad A Kc) (N : Nat) (z : Nat) (V : Vt) (a1 : Int32) (a2 : Int32) (r : Int32) (h : f_X9_wordOf N V a1 a2 = some r) : Met l yX9_wordOf (mw yX9_wordOf cX9_wordOf 8 (some .int)) { frames := 0, cells := 0, slots := 0, locals := 0 } (PreM D cy ad Kc (SM z) V [.ref (ad 0), .int a1, .int a2]) (QI D cy ad A r (SM z) V) 0 0 A := by
  refine ct_go C0 (own := RX9) rfl (by decide) rfl ?_
  intro p e s m below meth c ls H locs X hr hlocks hnm hl w
  have hx := X.1.1
  have hb := X.1.2.1
  have hown := X.2.1
  have hts := X.2.2.1
  have hl : lv_has ls 8 [(0, .ref (ad 0)), (1, .int a1), (2, .int a2)] := hl
  obtain ⟨G, hG⟩ : ∃ G : Nat → Vt → List (Nat × Value) → List Value → Prop, G = fun pc V lv st => ∀ (H : Heap) (locs : List Loc) (ls : Array Slot), Wd D cy ad A s.heap (SM z) V H locs → lv_has ls 8 lv → W p l e { frames := 0, cells := 0, slots := 0, locals := 0 } s m ([.ref (ad 0), .int a1, .int a2] : List Value).toArray below meth c H locs 0 0 (MQ below (QI D cy ad A r (SM z) V) ([.ref (ad 0), .int a1, .int a2] : List Value).toArray s 0 0 A) (F0 m pc ls st) := ⟨_, rfl⟩
  have L5 : ∀ (n5 : Nat) (v1 : Int32) (v2 : Int32) (v3 : Int32) (v4 : Int32), f_X9_wordOf_5 N V n5 v1 v2 v3 v4 = some r → G 5 V [(0, .ref (ad 0)), (1, .int v1), (2, .int v2), (3, .int v3), (4, .int v4)] [] := by
    intro n5
    induction n5 with
    | zero => intro v1 v2 v3 v4 h; rw [f_X9_wordOf_5] at h; cases h
    | succ n5 ih5 =>
      have B104 : ∀ (v1 : Int32) (v2 : Int32) (v3 : Int32) (v4 : Int32) (v5 : Int32) (v6 : Int32), f_X9_wordOf_104 N V (f_X9_wordOf_5 N V n5) v1 v2 v3 v4 v5 v6 = some r → G 104 V [(0, .ref (ad 0)), (1, .int v1), (2, .int v2), (3, .int v3), (4, .int v4), (5, .int v5), (6, .int v6)] [] := by
        intro v1 v2 v3 v4 v5 v6 h
        rw [hG]
        intro H locs ls w hl
        rw [f_X9_wordOf_104] at h
        refine lv_iload hx hb dX9_wordOf_104 (lv_at hl 6 rfl) ?_
        refine lv_if_eq (tgt := 111) hx hb dX9_wordOf_106 (by decide) (fun c13 => ?_) (fun c13 => ?_)
        · replace h := ifT h c13
          refine lv_iload hx hb dX9_wordOf_111 (lv_at hl 4 rfl) ?_
          refine lv_iload hx hb dX9_wordOf_113 (lv_at hl 5 rfl) ?_
          refine lv_iconst (v := 1) hx hb dX9_wordOf_115 (by decide) ?_
          refine lv_iadd hx hb dX9_wordOf_116 ?_
          refine lv_iadd hx hb dX9_wordOf_117 ?_
          refine lv_topi (fun x14 ex14 => ?_)
          replace h := bdi h _ ex14
          refine lv_istore (lv' := [(4, .int x14), (0, .ref (ad 0)), (1, .int v1), (2, .int v2), (3, .int v3), (5, .int v5), (6, .int v6)]) hx hb dX9_wordOf_118 hl (by decide) rfl (fun ls hl => ?_)
          obtain ⟨x15, ex15⟩ : ∃ y : Int32, y = v3 + (1 : Int32) := ⟨_, rfl⟩
          replace h := bdi h _ ex15
          refine lv_iinc (v := x15) (lv' := [(3, .int x15), (4, .int x14), (0, .ref (ad 0)), (1, .int v1), (2, .int v2), (5, .int v5), (6, .int v6)]) hx hb dX9_wordOf_120 hl (k := 4) rfl (by rw [ex15]; rfl) (by decide) rfl (fun ls hl => ?_)
          refine lv_goto (tgt := 5) hx hb dX9_wordOf_123 (by decide) ?_
          have g := ih5 v1 v2 x15 x14 h
          rw [hG] at g
          exact g H locs ls w (lv_sub hl [2, 3, 4, 0, 1] rfl)
        · replace h := ifF h c13
          refine lv_iload_n hx hb dX9_wordOf_109 rfl (lv_at hl 3 rfl) ?_
          obtain rfl := Option.some.inj h
          exact m_ri X w hr hlocks dX9_wordOf_110
      have L57 : ∀ (n57 : Nat) (v1 : Int32) (v2 : Int32) (v3 : Int32) (v4 : Int32) (v5 : Int32) (v6 : Int32) (v7 : Int32), f_X9_wordOf_57 N V (f_X9_wordOf_5 N V n5) n57 v1 v2 v3 v4 v5 v6 v7 = some r → G 57 V [(0, .ref (ad 0)), (1, .int v1), (2, .int v2), (3, .int v3), (4, .int v4), (5, .int v5), (6, .int v6), (7, .int v7)] [] := by
        intro n57
        induction n57 with
        | zero => intro v1 v2 v3 v4 v5 v6 v7 h; rw [f_X9_wordOf_57] at h; cases h
        | succ n57 ih57 =>
          have B96 : ∀ (v1 : Int32) (v2 : Int32) (v3 : Int32) (v4 : Int32) (v5 : Int32) (v7 : Int32) (s0 : Int32), f_X9_wordOf_96 N V (f_X9_wordOf_57 N V (f_X9_wordOf_5 N V n5) n57) v1 v2 v3 v4 v5 v7 s0 = some r → G 96 V [(0, .ref (ad 0)), (1, .int v1), (2, .int v2), (3, .int v3), (4, .int v4), (5, .int v5), (7, .int v7)] [.int s0] := by
            intro v1 v2 v3 v4 v5 v7 s0 h
            rw [hG]
            intro H locs ls w hl
            rw [f_X9_wordOf_96] at h
            refine lv_istore (lv' := [(6, .int s0), (0, .ref (ad 0)), (1, .int v1), (2, .int v2), (3, .int v3), (4, .int v4), (5, .int v5), (7, .int v7)]) hx hb dX9_wordOf_96 hl (by decide) rfl (fun ls hl => ?_)
            obtain ⟨x20, ex20⟩ : ∃ y : Int32, y = v7 + (1 : Int32) := ⟨_, rfl⟩
            replace h := bdi h _ ex20
            refine lv_iinc (v := x20) (lv' := [(7, .int x20), (6, .int s0), (0, .ref (ad 0)), (1, .int v1), (2, .int v2), (3, .int v3), (4, .int v4), (5, .int v5)]) hx hb dX9_wordOf_98 hl (k := 7) rfl (by rw [ex20]; rfl) (by decide) rfl (fun ls hl => ?_)
            refine lv_goto (tgt := 57) hx hb dX9_wordOf_101 (by decide) ?_
            have g := ih57 v1 v2 v3 v4 v5 s0 x20 h
            rw [hG] at g
            exact g H locs ls w (lv_sub hl [2, 3, 4, 5, 6, 7, 1, 0] rfl)
          intro v1 v2 v3 v4 v5 v6 v7 h
          rw [hG]
          intro H locs ls w hl
          rw [f_X9_wordOf_57] at h
          refine lv_iload hx hb dX9_wordOf_57 (lv_at hl 7 rfl) ?_
          refine lv_iload hx hb dX9_wordOf_59 (lv_at hl 5 rfl) ?_
          refine lv_icmp_ge (tgt := 104) hx hb dX9_wordOf_61 (by decide) (fun c12 => ?_) (fun c12 => ?_)
          · replace h := ifT h c12
            have g := B104 v1 v2 v3 v4 v5 v6 h
            rw [hG] at g
            exact g H locs ls w (lv_sub hl [0, 1, 2, 3, 4, 5, 6] rfl)
          · replace h := ifF h c12
            refine lv_iload hx hb dX9_wordOf_64 (lv_at hl 6 rfl) ?_
            refine lv_if_eq (tgt := 104) hx hb dX9_wordOf_66 (by decide) (fun c16 => ?_) (fun c16 => ?_)
            · replace h := ifT h c16
              have g := B104 v1 v2 v3 v4 v5 v6 h
              rw [hG] at g
              exact g H locs ls w (lv_sub hl [0, 1, 2, 3, 4, 5, 6] rfl)
            · replace h := ifF h c16
              refine lv_aload_n hx hb dX9_wordOf_69 rfl (lv_at hl 0 rfl) ?_
              refine m_get X w 0 sm_n0 sm_k0 ci9 7 (by decide) (fvR sm_k0 rfl sm_p7) rfl fl_X9_41 dX9_wordOf_70 ?_
              refine lv_iload hx hb dX9_wordOf_73 (lv_at hl 4 rfl) ?_
              refine lv_iload hx hb dX9_wordOf_75 (lv_at hl 7 rfl) ?_
              refine lv_iadd hx hb dX9_wordOf_77 ?_
              obtain ⟨g17, h⟩ := cki h
              refine m_bald X w 6 sm_n6 sm_k6 sm_z6 g17 dX9_wordOf_78 ?_
              refine lv_aload_n hx hb dX9_wordOf_79 rfl (lv_at hl 0 rfl) ?_
              refine m_get X w 0 sm_n0 sm_k0 ci9 11 (by decide) (fvR sm_k0 rfl sm_p11) rfl fl_X9_45 dX9_wordOf_80 ?_
              refine lv_iload_n hx hb dX9_wordOf_83 rfl (lv_at hl 1 rfl) ?_
              refine lv_iload hx hb dX9_wordOf_84 (lv_at hl 7 rfl) ?_
              refine lv_iadd hx hb dX9_wordOf_86 ?_
              obtain ⟨g18, h⟩ := cki h
              refine m_bald X w 7 sm_n7 sm_k7 sm_z7 g18 dX9_wordOf_87 ?_
              refine lv_icmp_ne (tgt := 95) hx hb dX9_wordOf_88 (by decide) (fun c19 => ?_) (fun c19 => ?_)
              · replace h := ifF h c19
                refine lv_iconst (v := 0) hx hb dX9_wordOf_95 (by decide) ?_
                have g := B96 v1 v2 v3 v4 v5 v7 (0 : Int32) h
                rw [hG] at g
                exact g H locs ls w (lv_sub hl [0, 1, 2, 3, 4, 5, 7] rfl)
              · replace h := ifT h c19
                refine lv_iconst (v := 1) hx hb dX9_wordOf_91 (by decide) ?_
                refine lv_goto (tgt := 96) hx hb dX9_wordOf_92 (by decide) ?_
                have g := B96 v1 v2 v3 v4 v5 v7 (1 : Int32) h
                rw [hG] at g
                exact g H locs ls w (lv_sub hl [0, 1, 2, 3, 4, 5, 7] rfl)
      have B52 : ∀ (v1 : Int32) (v2 : Int32) (v3 : Int32) (v4 : Int32) (v5 : Int32) (s0 : Int32), f_X9_wordOf_52 N V (f_X9_wordOf_5 N V n5) v1 v2 v3 v4 v5 s0 = some r → G 52 V [(0, .ref (ad 0)), (1, .int v1), (2, .int v2), (3, .int v3), (4, .int v4), (5, .int v5)] [.int s0] := by
        intro v1 v2 v3 v4 v5 s0 h
        rw [hG]
        intro H locs ls w hl
        rw [f_X9_wordOf_52] at h
        refine lv_istore (lv' := [(6, .int s0), (0, .ref (ad 0)), (1, .int v1), (2, .int v2), (3, .int v3), (4, .int v4), (5, .int v5)]) hx hb dX9_wordOf_52 hl (by decide) rfl (fun ls hl => ?_)
        refine lv_iconst (v := 0) hx hb dX9_wordOf_54 (by decide) ?_
        refine lv_istore (lv' := [(7, .int (0 : Int32)), (6, .int s0), (0, .ref (ad 0)), (1, .int v1), (2, .int v2), (3, .int v3), (4, .int v4), (5, .int v5)]) hx hb dX9_wordOf_55 hl (by decide) rfl (fun ls hl => ?_)
        have g := L57 N v1 v2 v3 v4 v5 s0 (0 : Int32) h
        rw [hG] at g
        exact g H locs ls w (lv_sub hl [2, 3, 4, 5, 6, 7, 1, 0] rfl)
      have L18 : ∀ (n18 : Nat) (v1 : Int32) (v2 : Int32) (v3 : Int32) (v4 : Int32) (v5 : Int32), f_X9_wordOf_18 N V (f_X9_wordOf_5 N V n5) n18 v1 v2 v3 v4 v5 = some r → G 18 V [(0, .ref (ad 0)), (1, .int v1), (2, .int v2), (3, .int v3), (4, .int v4), (5, .int v5)] [] := by
        intro n18
        induction n18 with
        | zero => intro v1 v2 v3 v4 v5 h; rw [f_X9_wordOf_18] at h; cases h
        | succ n18 ih18 =>
          intro v1 v2 v3 v4 v5 h
          rw [hG]
          intro H locs ls w hl
          rw [f_X9_wordOf_18] at h
          refine lv_aload_n hx hb dX9_wordOf_18 rfl (lv_at hl 0 rfl) ?_
          refine m_get X w 0 sm_n0 sm_k0 ci9 7 (by decide) (fvR sm_k0 rfl sm_p7) rfl fl_X9_41 dX9_wordOf_19 ?_
          refine lv_iload hx hb dX9_wordOf_22 (lv_at hl 4 rfl) ?_
          refine lv_iload hx hb dX9_wordOf_24 (lv_at hl 5 rfl) ?_
          refine lv_iadd hx hb dX9_wordOf_26 ?_
          obtain ⟨g9, h⟩ := cki h
          refine m_bald X w 6 sm_n6 sm_k6 sm_z6 g9 dX9_wordOf_27 ?_
          refine lv_bipush (v := 32) hx hb dX9_wordOf_28 (by decide) ?_
          refine lv_icmp_eq (tgt := 39) hx hb dX9_wordOf_30 (by decide) (fun c10 => ?_) (fun c10 => ?_)
          · replace h := ifT h c10
            refine lv_iload hx hb dX9_wordOf_39 (lv_at hl 5 rfl) ?_
            refine lv_iload_n hx hb dX9_wordOf_41 rfl (lv_at hl 2 rfl) ?_
            refine lv_iload_n hx hb dX9_wordOf_42 rfl (lv_at hl 1 rfl) ?_
            refine lv_isub hx hb dX9_wordOf_43 ?_
            refine lv_icmp_ne (tgt := 51) hx hb dX9_wordOf_44 (by decide) (fun c11 => ?_) (fun c11 => ?_)
            · replace h := ifF h c11
              refine lv_iconst (v := 0) hx hb dX9_wordOf_51 (by decide) ?_
              have g := B52 v1 v2 v3 v4 v5 (0 : Int32) h
              rw [hG] at g
              exact g H locs ls w (lv_sub hl [0, 1, 2, 3, 4, 5] rfl)
            · replace h := ifT h c11
              refine lv_iconst (v := 1) hx hb dX9_wordOf_47 (by decide) ?_
              refine lv_goto (tgt := 52) hx hb dX9_wordOf_48 (by decide) ?_
              have g := B52 v1 v2 v3 v4 v5 (1 : Int32) h
              rw [hG] at g
              exact g H locs ls w (lv_sub hl [0, 1, 2, 3, 4, 5] rfl)
          · replace h := ifF h c10
            obtain ⟨x21, ex21⟩ : ∃ y : Int32, y = v5 + (1 : Int32) := ⟨_, rfl⟩
            replace h := bdi h _ ex21
            refine lv_iinc (v := x21) (lv' := [(5, .int x21), (0, .ref (ad 0)), (1, .int v1), (2, .int v2), (3, .int v3), (4, .int v4)]) hx hb dX9_wordOf_33 hl (k := 5) rfl (by rw [ex21]; rfl) (by decide) rfl (fun ls hl => ?_)
            refine lv_goto (tgt := 18) hx hb dX9_wordOf_36 (by decide) ?_
            have g := ih18 v1 v2 v3 v4 x21 h
            rw [hG] at g
            exact g H locs ls w (lv_sub hl [1, 2, 3, 4, 5, 0] rfl)
      intro v1 v2 v3 v4 h
      rw [hG]
      intro H locs ls w hl
      rw [f_X9_wordOf_5] at h
      refine lv_iload hx hb dX9_wordOf_5 (lv_at hl 4 rfl) ?_
      refine lv_aload_n hx hb dX9_wordOf_7 rfl (lv_at hl 0 rfl) ?_
      refine m_get X w 0 sm_n0 sm_k0 ci9 7 (by decide) (fvR sm_k0 rfl sm_p7) rfl fl_X9_41 dX9_wordOf_8 ?_
      refine m_alenB (v := (144 : Int32)) X w 6 sm_n6 sm_k6 sm_z6 (by first | decide | rfl) dX9_wordOf_11 ?_
      refine lv_icmp_ge (tgt := 126) hx hb dX9_wordOf_12 (by decide) (fun c8 => ?_) (fun c8 => ?_)
      · replace h := ifT h c8
        refine lv_iconst (v := 0) hx hb dX9_wordOf_126 (by decide) ?_
        obtain rfl := Option.some.inj h
        exact m_ri X w hr hlocks dX9_wordOf_127
      · replace h := ifF h c8
        refine lv_iconst (v := 0) hx hb dX9_wordOf_15 (by decide) ?_
        refine lv_istore (lv' := [(5, .int (0 : Int32)), (0, .ref (ad 0)), (1, .int v1), (2, .int v2), (3, .int v3), (4, .int v4)]) hx hb dX9_wordOf_16 hl (by decide) rfl (fun ls hl => ?_)
        have g := L18 N v1 v2 v3 v4 (0 : Int32) h
        rw [hG] at g
        exact g H locs ls w (lv_sub hl [1, 2, 3, 4, 5, 0] rfl)
  rw [f_X9_wordOf] at h
  refine lv_iconst (v := 1) hx hb dX9_wordOf_0 (by decide) ?_
  refine lv_istore_n (lv' := [(3, .int (1 : Int32)), (0, .ref (ad 0)), (1, .int a1), (2, .int a2)]) hx hb dX9_wordOf_1 rfl hl (by decide) rfl (fun ls hl => ?_)
  refine lv_iconst (v := 0) hx hb dX9_wordOf_2 (by decide) ?_
  refine lv_istore (lv' := [(4, .int (0 : Int32)), (3, .int (1 : Int32)), (0, .ref (ad 0)), (1, .int a1), (2, .int a2)]) hx hb dX9_wordOf_3 hl (by decide) rfl (fun ls hl => ?_)
  have g := L5 N a1 a2 (1 : Int32) (0 : Int32) h
  rw [hG] at g
  exact g H locs ls w (lv_sub hl [2, 3, 4, 1, 0] rfl)
def f_X9_fine (N : Nat) (V : Vt) : Option Int32 := if (V.1 0 21) = (-1 : Int32) then some (1 : Int32) else some (0 : Int32)
set_option maxHeartbeats 4000000 in
set_option maxRecDepth 100000 in
theorem c_X9_fine (l : Launch) (D : va_G) (cy : Nat → ClassId) (ad : Nat → Nat) (A : Nat → Prop) (Kc : State → Prop) (C0 : Cx ad A Kc) (N : Nat) (z : Nat) (V : Vt) (r : Int32) (h : f_X9_fine N V = some r) : Met l yX9_fine (mw yX9_fine cX9_fine 1 (some .boolean)) { frames := 0, cells := 0, slots := 0, locals := 0 } (PreM D cy ad Kc (SM z) V [.ref (ad 0)]) (QI D cy ad A r (SM z) V) 0 0 A := by
  refine ct_go C0 (own := RX9) rfl (by decide) rfl ?_
  intro p e s m below meth c ls H locs X hr hlocks hnm hl w
  have hx := X.1.1
  have hb := X.1.2.1
  have hown := X.2.1
  have hts := X.2.2.1
  have hl : lv_has ls 1 [(0, .ref (ad 0))] := hl
  rw [f_X9_fine] at h
  refine lv_aload_n hx hb dX9_fine_0 rfl (lv_at hl 0 rfl) ?_
  refine m_get X w 0 sm_n0 sm_k0 ci9 21 (by decide) (fvI sm_k0 rfl) rfl fl_X9_171 dX9_fine_1 ?_
  refine lv_iconst (v := (-1)) hx hb dX9_fine_4 (by decide) ?_
  refine lv_icmp_ne (tgt := 12) hx hb dX9_fine_5 (by decide) (fun c1 => ?_) (fun c1 => ?_)
  · replace h := ifF h c1
    refine lv_iconst (v := 0) hx hb dX9_fine_12 (by decide) ?_
    obtain rfl := Option.some.inj h
    exact m_rz X w hr rfl hlocks dX9_fine_13
  · replace h := ifT h c1
    refine lv_iconst (v := 1) hx hb dX9_fine_8 (by decide) ?_
    refine lv_goto (tgt := 13) hx hb dX9_fine_9 (by decide) ?_
    obtain rfl := Option.some.inj h
    exact m_rz X w hr rfl hlocks dX9_fine_13
def f_X9_sign (N : Nat) (a1 : Int32) : Option Int32 := some ((100 : Int32) + a1)
set_option maxHeartbeats 4000000 in
set_option maxRecDepth 100000 in
theorem c_X9_sign (l : Launch) (D : va_G) (cy : Nat → ClassId) (ad : Nat → Nat) (A : Nat → Prop) (Kc : State → Prop) (C0 : Cx ad A Kc) (N : Nat) (z : Nat) (V : Vt) (a1 : Int32) (r : Int32) (h : f_X9_sign N a1 = some r) : Met l yX9_sign (mw yX9_sign cX9_sign 1 (some .int)) { frames := 0, cells := 0, slots := 0, locals := 0 } (PreM D cy ad Kc (SM z) V [.int a1]) (QI D cy ad A r (SM z) V) 0 0 A := by
  refine ct_go C0 (own := RX9) rfl (by decide) rfl ?_
  intro p e s m below meth c ls H locs X hr hlocks hnm hl w
  have hx := X.1.1
  have hb := X.1.2.1
  have hown := X.2.1
  have hts := X.2.2.1
  have hl : lv_has ls 1 [(0, .int a1)] := hl
  rw [f_X9_sign] at h
  refine lv_bipush (v := 100) hx hb dX9_sign_0 (by decide) ?_
  refine lv_iload_n hx hb dX9_sign_2 rfl (lv_at hl 0 rfl) ?_
  refine lv_iadd hx hb dX9_sign_3 ?_
  obtain rfl := Option.some.inj h
  exact m_ri X w hr hlocks dX9_sign_4
def f_X9_lays_15 (N : Nat) : Nat → Vt → Int32 → Int32 → Option Vt
  | 0, _, _, _ => none
  | n + 1, V, v1, v2 => if (V.1 0 18) ≤ v2 then some V else ck v2 401 (ck (((115 : Int32) + ((400 : Int32) * v1)) + v2) 5715 (bd (sA V 2 (((115 : Int32) + ((400 : Int32) * v1)) + v2).toNatClampNeg (V.2.1 9 v2.toNatClampNeg)) (fun V15 => ck v2 401 (ck (((2915 : Int32) + ((400 : Int32) * v1)) + v2) 5715 (bd (sA V15 2 (((2915 : Int32) + ((400 : Int32) * v1)) + v2).toNatClampNeg (V15.2.1 10 v2.toNatClampNeg)) (fun V18 => bd (v2 + (1 : Int32)) (fun x19 => (f_X9_lays_15 N n) V18 v1 x19)))))))
def f_X9_lays (N : Nat) (V : Vt) (a1 : Int32) : Option Vt := ck ((108 : Int32) + a1) 5715 (bd (sA V 2 ((108 : Int32) + a1).toNatClampNeg (V.1 0 18)) (fun V11 => f_X9_lays_15 N N V11 a1 (0 : Int32)))
set_option maxHeartbeats 4000000 in
set_option maxRecDepth 100000 in
theorem c_X9_lays (l : Launch) (D : va_G) (cy : Nat → ClassId) (ad : Nat → Nat) (A : Nat → Prop) (Kc : State → Prop) (C0 : Cx ad A Kc) (N : Nat) (z : Nat) (V : Vt) (a1 : Int32) (V' : Vt) (h : f_X9_lays N V a1 = some V') : Met l yX9_lays (mw yX9_lays cX9_lays 3 none) { frames := 0, cells := 0, slots := 0, locals := 0 } (PreM D cy ad Kc (SM z) V [.ref (ad 0), .int a1]) (QV D cy ad A (SM z) V') 0 0 A := by
  refine ct_go C0 (own := RX9) rfl (by decide) rfl ?_
  intro p e s m below meth c ls H locs X hr hlocks hnm hl w
  have hx := X.1.1
  have hb := X.1.2.1
  have hown := X.2.1
  have hts := X.2.2.1
  have hl : lv_has ls 3 [(0, .ref (ad 0)), (1, .int a1)] := hl
  obtain ⟨G, hG⟩ : ∃ G : Nat → Vt → List (Nat × Value) → List Value → Prop, G = fun pc V lv st => ∀ (H : Heap) (locs : List Loc) (ls : Array Slot), Wd D cy ad A s.heap (SM z) V H locs → lv_has ls 3 lv → W p l e { frames := 0, cells := 0, slots := 0, locals := 0 } s m ([.ref (ad 0), .int a1] : List Value).toArray below meth c H locs 0 0 (MQ below (QV D cy ad A (SM z) V') ([.ref (ad 0), .int a1] : List Value).toArray s 0 0 A) (F0 m pc ls st) := ⟨_, rfl⟩
  have L15 : ∀ (n15 : Nat) (V : Vt) (v1 : Int32) (v2 : Int32), f_X9_lays_15 N n15 V v1 v2 = some V' → G 15 V [(0, .ref (ad 0)), (1, .int v1), (2, .int v2)] [] := by
    intro n15
    induction n15 with
    | zero => intro V v1 v2 h; rw [f_X9_lays_15] at h; cases h
    | succ n15 ih15 =>
      intro V v1 v2 h
      rw [hG]
      intro H locs ls w hl
      rw [f_X9_lays_15] at h
      refine lv_iload_n hx hb dX9_lays_15 rfl (lv_at hl 2 rfl) ?_
      refine lv_aload_n hx hb dX9_lays_16 rfl (lv_at hl 0 rfl) ?_
      refine m_get X w 0 sm_n0 sm_k0 ci9 18 (by decide) (fvI sm_k0 rfl) rfl fl_X9_158 dX9_lays_17 ?_
      refine lv_icmp_ge (tgt := 72) hx hb dX9_lays_20 (by decide) (fun c12 => ?_) (fun c12 => ?_)
      · replace h := ifT h c12
        obtain rfl := Option.some.inj h
        exact m_rv X w hr hlocks dX9_lays_72
      · replace h := ifF h c12
        refine lv_aload_n hx hb dX9_lays_23 rfl (lv_at hl 0 rfl) ?_
        refine m_get X w 0 sm_n0 sm_k0 ci9 2 (by decide) (fvR sm_k0 rfl sm_p2) rfl fl_X9_28 dX9_lays_24 ?_
        refine lv_bipush (v := 115) hx hb dX9_lays_27 (by decide) ?_
        refine lv_sipush (v := 400) hx hb dX9_lays_29 (by decide) ?_
        refine lv_iload_n hx hb dX9_lays_32 rfl (lv_at hl 1 rfl) ?_
        refine lv_imul hx hb dX9_lays_33 ?_
        refine lv_iadd hx hb dX9_lays_34 ?_
        refine lv_iload_n hx hb dX9_lays_35 rfl (lv_at hl 2 rfl) ?_
        refine lv_iadd hx hb dX9_lays_36 ?_
        refine lv_aload_n hx hb dX9_lays_37 rfl (lv_at hl 0 rfl) ?_
        refine m_get X w 0 sm_n0 sm_k0 ci9 15 (by decide) (fvR sm_k0 rfl sm_p15) rfl fl_X9_54 dX9_lays_38 ?_
        refine lv_iload_n hx hb dX9_lays_41 rfl (lv_at hl 2 rfl) ?_
        obtain ⟨g13, h⟩ := cki h
        refine m_iald X w 9 sm_n9 sm_k9 sm_z9 g13 dX9_lays_42 ?_
        obtain ⟨g14, h⟩ := cki h
        refine m_iast X w 2 sm_n2 sm_k2 sm_z2 g14 dX9_lays_43 (fun V15 H locs eV15 w => ?_)
        replace h := bdi h _ eV15
        refine lv_aload_n hx hb dX9_lays_44 rfl (lv_at hl 0 rfl) ?_
        refine m_get X w 0 sm_n0 sm_k0 ci9 2 (by decide) (fvR sm_k0 rfl sm_p2) rfl fl_X9_28 dX9_lays_45 ?_
        refine lv_sipush (v := 2915) hx hb dX9_lays_48 (by decide) ?_
        refine lv_sipush (v := 400) hx hb dX9_lays_51 (by decide) ?_
        refine lv_iload_n hx hb dX9_lays_54 rfl (lv_at hl 1 rfl) ?_
        refine lv_imul hx hb dX9_lays_55 ?_
        refine lv_iadd hx hb dX9_lays_56 ?_
        refine lv_iload_n hx hb dX9_lays_57 rfl (lv_at hl 2 rfl) ?_
        refine lv_iadd hx hb dX9_lays_58 ?_
        refine lv_aload_n hx hb dX9_lays_59 rfl (lv_at hl 0 rfl) ?_
        refine m_get X w 0 sm_n0 sm_k0 ci9 16 (by decide) (fvR sm_k0 rfl sm_p16) rfl fl_X9_57 dX9_lays_60 ?_
        refine lv_iload_n hx hb dX9_lays_63 rfl (lv_at hl 2 rfl) ?_
        obtain ⟨g16, h⟩ := cki h
        refine m_iald X w 10 sm_n10 sm_k10 sm_z10 g16 dX9_lays_64 ?_
        obtain ⟨g17, h⟩ := cki h
        refine m_iast X w 2 sm_n2 sm_k2 sm_z2 g17 dX9_lays_65 (fun V18 H locs eV18 w => ?_)
        replace h := bdi h _ eV18
        obtain ⟨x19, ex19⟩ : ∃ y : Int32, y = v2 + (1 : Int32) := ⟨_, rfl⟩
        replace h := bdi h _ ex19
        refine lv_iinc (v := x19) (lv' := [(2, .int x19), (0, .ref (ad 0)), (1, .int v1)]) hx hb dX9_lays_66 hl (k := 2) rfl (by rw [ex19]; rfl) (by decide) rfl (fun ls hl => ?_)
        refine lv_goto (tgt := 15) hx hb dX9_lays_69 (by decide) ?_
        have g := ih15 V18 v1 x19 h
        rw [hG] at g
        exact g H locs ls w (lv_sub hl [1, 2, 0] rfl)
  rw [f_X9_lays] at h
  refine lv_aload_n hx hb dX9_lays_0 rfl (lv_at hl 0 rfl) ?_
  refine m_get X w 0 sm_n0 sm_k0 ci9 2 (by decide) (fvR sm_k0 rfl sm_p2) rfl fl_X9_28 dX9_lays_1 ?_
  refine lv_bipush (v := 108) hx hb dX9_lays_4 (by decide) ?_
  refine lv_iload_n hx hb dX9_lays_6 rfl (lv_at hl 1 rfl) ?_
  refine lv_iadd hx hb dX9_lays_7 ?_
  refine lv_aload_n hx hb dX9_lays_8 rfl (lv_at hl 0 rfl) ?_
  refine m_get X w 0 sm_n0 sm_k0 ci9 18 (by decide) (fvI sm_k0 rfl) rfl fl_X9_158 dX9_lays_9 ?_
  obtain ⟨g10, h⟩ := cki h
  refine m_iast X w 2 sm_n2 sm_k2 sm_z2 g10 dX9_lays_12 (fun V11 H locs eV11 w => ?_)
  replace h := bdi h _ eV11
  refine lv_iconst (v := 0) hx hb dX9_lays_13 (by decide) ?_
  refine lv_istore_n (lv' := [(2, .int (0 : Int32)), (0, .ref (ad 0)), (1, .int a1)]) hx hb dX9_lays_14 rfl hl (by decide) rfl (fun ls hl => ?_)
  have g := L15 N V11 a1 (0 : Int32) h
  rw [hG] at g
  exact g H locs ls w (lv_sub hl [1, 2, 0] rfl)
def f_X9_fault (N : Nat) (V : Vt) : Option Int32 := some (V.1 0 14)
set_option maxHeartbeats 4000000 in
set_option maxRecDepth 100000 in
theorem c_X9_fault (l : Launch) (D : va_G) (cy : Nat → ClassId) (ad : Nat → Nat) (A : Nat → Prop) (Kc : State → Prop) (C0 : Cx ad A Kc) (N : Nat) (z : Nat) (V : Vt) (r : Int32) (h : f_X9_fault N V = some r) : Met l yX9_fault (mw yX9_fault cX9_fault 1 (some .int)) { frames := 0, cells := 0, slots := 0, locals := 0 } (PreM D cy ad Kc (SM z) V [.ref (ad 0)]) (QI D cy ad A r (SM z) V) 0 0 A := by
  refine ct_go C0 (own := RX9) rfl (by decide) rfl ?_
  intro p e s m below meth c ls H locs X hr hlocks hnm hl w
  have hx := X.1.1
  have hb := X.1.2.1
  have hown := X.2.1
  have hts := X.2.2.1
  have hl : lv_has ls 1 [(0, .ref (ad 0))] := hl
  rw [f_X9_fault] at h
  refine lv_aload_n hx hb dX9_fault_0 rfl (lv_at hl 0 rfl) ?_
  refine m_get X w 0 sm_n0 sm_k0 ci9 14 (by decide) (fvI sm_k0 rfl) rfl fl_X9_51 dX9_fault_1 ?_
  obtain rfl := Option.some.inj h
  exact m_ri X w hr hlocks dX9_fault_4
def f_X9_codeAt (N : Nat) (V : Vt) (a1 : Int32) : Option Int32 := if (V.1 0 23) ≤ a1 then some (0 : Int32) else ck ((115 : Int32) + a1) 5715 (some (V.2.1 2 ((115 : Int32) + a1).toNatClampNeg))
set_option maxHeartbeats 4000000 in
set_option maxRecDepth 100000 in
theorem c_X9_codeAt (l : Launch) (D : va_G) (cy : Nat → ClassId) (ad : Nat → Nat) (A : Nat → Prop) (Kc : State → Prop) (C0 : Cx ad A Kc) (N : Nat) (z : Nat) (V : Vt) (a1 : Int32) (r : Int32) (h : f_X9_codeAt N V a1 = some r) : Met l yX9_codeAt (mw yX9_codeAt cX9_codeAt 2 (some .int)) { frames := 0, cells := 0, slots := 0, locals := 0 } (PreM D cy ad Kc (SM z) V [.ref (ad 0), .int a1]) (QI D cy ad A r (SM z) V) 0 0 A := by
  refine ct_go C0 (own := RX9) rfl (by decide) rfl ?_
  intro p e s m below meth c ls H locs X hr hlocks hnm hl w
  have hx := X.1.1
  have hb := X.1.2.1
  have hown := X.2.1
  have hts := X.2.2.1
  have hl : lv_has ls 2 [(0, .ref (ad 0)), (1, .int a1)] := hl
  rw [f_X9_codeAt] at h
  refine lv_iload_n hx hb dX9_codeAt_0 rfl (lv_at hl 1 rfl) ?_
  refine lv_aload_n hx hb dX9_codeAt_1 rfl (lv_at hl 0 rfl) ?_
  refine m_get X w 0 sm_n0 sm_k0 ci9 23 (by decide) (fvI sm_k0 rfl) rfl fl_X9_255 dX9_codeAt_2 ?_
  refine lv_icmp_ge (tgt := 20) hx hb dX9_codeAt_5 (by decide) (fun c2 => ?_) (fun c2 => ?_)
  · replace h := ifT h c2
    refine lv_iconst (v := 0) hx hb dX9_codeAt_20 (by decide) ?_
    obtain rfl := Option.some.inj h
    exact m_ri X w hr hlocks dX9_codeAt_21
  · replace h := ifF h c2
    refine lv_aload_n hx hb dX9_codeAt_8 rfl (lv_at hl 0 rfl) ?_
    refine m_get X w 0 sm_n0 sm_k0 ci9 2 (by decide) (fvR sm_k0 rfl sm_p2) rfl fl_X9_28 dX9_codeAt_9 ?_
    refine lv_bipush (v := 115) hx hb dX9_codeAt_12 (by decide) ?_
    refine lv_iload_n hx hb dX9_codeAt_14 rfl (lv_at hl 1 rfl) ?_
    refine lv_iadd hx hb dX9_codeAt_15 ?_
    obtain ⟨g3, h⟩ := cki h
    refine m_iald X w 2 sm_n2 sm_k2 sm_z2 g3 dX9_codeAt_16 ?_
    refine lv_goto (tgt := 21) hx hb dX9_codeAt_17 (by decide) ?_
    obtain rfl := Option.some.inj h
    exact m_ri X w hr hlocks dX9_codeAt_21
def f_X9_bounded_25 (N : Nat) (V : Vt) (v1 : Int64) : Option (Int64 × Vt) := if (V.1 0 24) = 0 then some (v1, V) else some ((0 : Int64), V)
def f_X9_bounded_20 (N : Nat) (V : Vt) (v1 : Int64) : Option (Int64 × Vt) := bd (sF V 0 24 (1 : Int32)) (fun V5 => f_X9_bounded_25 N V5 v1)
def f_X9_bounded (N : Nat) (V : Vt) (a1 : Int64) (a2 : Int32) : Option (Int64 × Vt) := if a2 = 0 then f_X9_bounded_25 N V a1 else if 0 < (lg_cmp a1 (1000000000 : Int64)) then f_X9_bounded_20 N V a1 else if 0 ≤ (lg_cmp a1 (-1000000000 : Int64)) then f_X9_bounded_25 N V a1 else f_X9_bounded_20 N V a1
set_option maxHeartbeats 4000000 in
set_option maxRecDepth 100000 in
theorem c_X9_bounded (l : Launch) (D : va_G) (cy : Nat → ClassId) (ad : Nat → Nat) (A : Nat → Prop) (Kc : State → Prop) (C0 : Cx ad A Kc) (N : Nat) (z : Nat) (V : Vt) (a1 : Int64) (a2 : Int32) (r : Int64) (V' : Vt) (h : f_X9_bounded N V a1 a2 = some (r, V')) : Met l yX9_bounded (mw yX9_bounded cX9_bounded 4 (some .long)) { frames := 0, cells := 0, slots := 0, locals := 0 } (PreM D cy ad Kc (SM z) V [.ref (ad 0), .long a1, .int a2]) (QL D cy ad A r (SM z) V') 0 0 A := by
  refine ct_go C0 (own := RX9) rfl (by decide) rfl ?_
  intro p e s m below meth c ls H locs X hr hlocks hnm hl w
  have hx := X.1.1
  have hb := X.1.2.1
  have hown := X.2.1
  have hts := X.2.2.1
  have hl : lv_has ls 4 [(0, .ref (ad 0)), (1, .long a1), (3, .int a2)] := hl
  obtain ⟨G, hG⟩ : ∃ G : Nat → Vt → List (Nat × Value) → List Value → Prop, G = fun pc V lv st => ∀ (H : Heap) (locs : List Loc) (ls : Array Slot), Wd D cy ad A s.heap (SM z) V H locs → lv_has ls 4 lv → W p l e { frames := 0, cells := 0, slots := 0, locals := 0 } s m ([.ref (ad 0), .long a1, .int a2] : List Value).toArray below meth c H locs 0 0 (MQ below (QL D cy ad A r (SM z) V') ([.ref (ad 0), .long a1, .int a2] : List Value).toArray s 0 0 A) (F0 m pc ls st) := ⟨_, rfl⟩
  have B25 : ∀ (V : Vt) (v1 : Int64), f_X9_bounded_25 N V v1 = some (r, V') → G 25 V [(0, .ref (ad 0)), (1, .long v1)] [] := by
    intro V v1 h
    rw [hG]
    intro H locs ls w hl
    rw [f_X9_bounded_25] at h
    refine lv_aload_n hx hb dX9_bounded_25 rfl (lv_at hl 0 rfl) ?_
    refine m_get X w 0 sm_n0 sm_k0 ci9 24 (by decide) (fvI sm_k0 rfl) rfl fl_X9_268 dX9_bounded_26 ?_
    refine lv_if_eq (tgt := 36) hx hb dX9_bounded_29 (by decide) (fun c3 => ?_) (fun c3 => ?_)
    · replace h := ifT h c3
      refine lv_lload_n hx hb dX9_bounded_36 rfl (lv_at hl 1 rfl) ?_
      obtain ⟨rfl, rfl⟩ := reti h
      exact m_rl X w hr hlocks dX9_bounded_37
    · replace h := ifF h c3
      refine lv_lconst (v := 0) hx hb dX9_bounded_32 (by decide) ?_
      refine lv_goto (tgt := 37) hx hb dX9_bounded_33 (by decide) ?_
      obtain ⟨rfl, rfl⟩ := reti h
      exact m_rl X w hr hlocks dX9_bounded_37
  have B20 : ∀ (V : Vt) (v1 : Int64), f_X9_bounded_20 N V v1 = some (r, V') → G 20 V [(0, .ref (ad 0)), (1, .long v1)] [] := by
    intro V v1 h
    rw [hG]
    intro H locs ls w hl
    rw [f_X9_bounded_20] at h
    refine lv_aload_n hx hb dX9_bounded_20 rfl (lv_at hl 0 rfl) ?_
    refine lv_iconst (v := 1) hx hb dX9_bounded_21 (by decide) ?_
    refine m_put X w 0 sm_n0 sm_k0 ci9 24 (by decide) rfl rfl rfl rfl rfl fl_X9_268 dX9_bounded_22 (fun V5 H locs eV5 w => ?_)
    replace h := bdi h _ eV5
    have g := B25 V5 v1 h
    rw [hG] at g
    exact g H locs ls w (lv_sub hl [0, 1] rfl)
  rw [f_X9_bounded] at h
  refine lv_iload_n hx hb dX9_bounded_0 rfl (lv_at hl 2 rfl) ?_
  refine lv_if_eq (tgt := 25) hx hb dX9_bounded_1 (by decide) (fun c2 => ?_) (fun c2 => ?_)
  · replace h := ifT h c2
    have g := B25 V a1 h
    rw [hG] at g
    exact g H locs ls w (lv_sub hl [0, 1] rfl)
  · replace h := ifF h c2
    refine lv_lload_n hx hb dX9_bounded_4 rfl (lv_at hl 1 rfl) ?_
    refine lv_ldc2 (v := 1000000000) hx hb hown (hts _ kl_X9_264) dX9_bounded_5 ?_
    refine W.lcmp hx hb dX9_bounded_8 ?_
    refine lv_if_gt (tgt := 20) hx hb dX9_bounded_9 (by decide) (fun c4 => ?_) (fun c4 => ?_)
    · replace h := ifT h c4
      have g := B20 V a1 h
      rw [hG] at g
      exact g H locs ls w (lv_sub hl [0, 1] rfl)
    · replace h := ifF h c4
      refine lv_lload_n hx hb dX9_bounded_12 rfl (lv_at hl 1 rfl) ?_
      refine lv_ldc2 (v := (-1000000000)) hx hb hown (hts _ kl_X9_266) dX9_bounded_13 ?_
      refine W.lcmp hx hb dX9_bounded_16 ?_
      refine lv_if_ge (tgt := 25) hx hb dX9_bounded_17 (by decide) (fun c6 => ?_) (fun c6 => ?_)
      · replace h := ifT h c6
        have g := B25 V a1 h
        rw [hG] at g
        exact g H locs ls w (lv_sub hl [0, 1] rfl)
      · replace h := ifF h c6
        have g := B20 V a1 h
        rw [hG] at g
        exact g H locs ls w (lv_sub hl [0, 1] rfl)
def f_X9_keeps_54 (N : Nat) : Nat → Vt → Int32 → Int32 → Int32 → Option Vt
  | 0, _, _, _, _ => none
  | n + 1, V, v1, v2, v3 => if (32 : Int32) ≤ v3 then ck ((v2 * (V.1 0 31)) + (32 : Int32)) 528 (bd (sA V 13 ((v2 * (V.1 0 31)) + (32 : Int32)).toNatClampNeg v1) (fun V16 => bd (sF V16 0 31 ((V16.1 0 31) + (1 : Int32))) (fun V17 => some V17))) else ck v3 5715 (ck ((v2 * (V.1 0 31)) + v3) 528 (bd (sA V 13 ((v2 * (V.1 0 31)) + v3).toNatClampNeg (V.2.1 2 v3.toNatClampNeg)) (fun V20 => bd (v3 + (1 : Int32)) (fun x21 => (f_X9_keeps_54 N n) V20 v1 v2 x21))))
def f_X9_keeps_52 (N : Nat) (V : Vt) (v1 : Int32) (v2 : Int32) : Option Vt := f_X9_keeps_54 N N V v1 v2 (0 : Int32)
def f_X9_keeps_14 (N : Nat) : Nat → Vt → Int32 → Int32 → Int32 → Option Vt
  | 0, _, _, _, _ => none
  | n + 1, V, v1, v2, v3 => if ((15 : Int32) * v2) ≤ v3 then bd (sF V 0 31 ((V.1 0 31) - (1 : Int32))) (fun V23 => f_X9_keeps_52 N V23 v1 v2) else ck (v3 + v2) 528 (ck v3 528 (bd (sA V 13 v3.toNatClampNeg (V.2.1 13 (v3 + v2).toNatClampNeg)) (fun V26 => bd (v3 + (1 : Int32)) (fun x27 => (f_X9_keeps_14 N n) V26 v1 v2 x27))))
def f_X9_keeps (N : Nat) (V : Vt) (a1 : Int32) : Option Vt := if (V.1 0 31) = (16 : Int32) then f_X9_keeps_14 N N V a1 (33 : Int32) (0 : Int32) else f_X9_keeps_52 N V a1 (33 : Int32)
set_option maxHeartbeats 4000000 in
set_option maxRecDepth 100000 in
theorem c_X9_keeps (l : Launch) (D : va_G) (cy : Nat → ClassId) (ad : Nat → Nat) (A : Nat → Prop) (Kc : State → Prop) (C0 : Cx ad A Kc) (N : Nat) (z : Nat) (V : Vt) (a1 : Int32) (V' : Vt) (h : f_X9_keeps N V a1 = some V') : Met l yX9_keeps (mw yX9_keeps cX9_keeps 4 none) { frames := 0, cells := 0, slots := 0, locals := 0 } (PreM D cy ad Kc (SM z) V [.ref (ad 0), .int a1]) (QV D cy ad A (SM z) V') 0 0 A := by
  refine ct_go C0 (own := RX9) rfl (by decide) rfl ?_
  intro p e s m below meth c ls H locs X hr hlocks hnm hl w
  have hx := X.1.1
  have hb := X.1.2.1
  have hown := X.2.1
  have hts := X.2.2.1
  have hl : lv_has ls 4 [(0, .ref (ad 0)), (1, .int a1)] := hl
  obtain ⟨G, hG⟩ : ∃ G : Nat → Vt → List (Nat × Value) → List Value → Prop, G = fun pc V lv st => ∀ (H : Heap) (locs : List Loc) (ls : Array Slot), Wd D cy ad A s.heap (SM z) V H locs → lv_has ls 4 lv → W p l e { frames := 0, cells := 0, slots := 0, locals := 0 } s m ([.ref (ad 0), .int a1] : List Value).toArray below meth c H locs 0 0 (MQ below (QV D cy ad A (SM z) V') ([.ref (ad 0), .int a1] : List Value).toArray s 0 0 A) (F0 m pc ls st) := ⟨_, rfl⟩
  have L54 : ∀ (n54 : Nat) (V : Vt) (v1 : Int32) (v2 : Int32) (v3 : Int32), f_X9_keeps_54 N n54 V v1 v2 v3 = some V' → G 54 V [(0, .ref (ad 0)), (1, .int v1), (2, .int v2), (3, .int v3)] [] := by
    intro n54
    induction n54 with
    | zero => intro V v1 v2 v3 h; rw [f_X9_keeps_54] at h; cases h
    | succ n54 ih54 =>
      intro V v1 v2 v3 h
      rw [hG]
      intro H locs ls w hl
      rw [f_X9_keeps_54] at h
      refine lv_iload_n hx hb dX9_keeps_54 rfl (lv_at hl 3 rfl) ?_
      refine lv_bipush (v := 32) hx hb dX9_keeps_55 (by decide) ?_
      refine lv_icmp_ge (tgt := 85) hx hb dX9_keeps_57 (by decide) (fun c14 => ?_) (fun c14 => ?_)
      · replace h := ifT h c14
        refine lv_aload_n hx hb dX9_keeps_85 rfl (lv_at hl 0 rfl) ?_
        refine m_get X w 0 sm_n0 sm_k0 ci9 29 (by decide) (fvR sm_k0 rfl sm_p29) rfl fl_X9_66 dX9_keeps_86 ?_
        refine lv_iload_n hx hb dX9_keeps_89 rfl (lv_at hl 2 rfl) ?_
        refine lv_aload_n hx hb dX9_keeps_90 rfl (lv_at hl 0 rfl) ?_
        refine m_get X w 0 sm_n0 sm_k0 ci9 31 (by decide) (fvI sm_k0 rfl) rfl fl_X9_11 dX9_keeps_91 ?_
        refine lv_imul hx hb dX9_keeps_94 ?_
        refine lv_bipush (v := 32) hx hb dX9_keeps_95 (by decide) ?_
        refine lv_iadd hx hb dX9_keeps_97 ?_
        refine lv_iload_n hx hb dX9_keeps_98 rfl (lv_at hl 1 rfl) ?_
        obtain ⟨g15, h⟩ := cki h
        refine m_iast X w 13 sm_n13 sm_k13 sm_z13 g15 dX9_keeps_99 (fun V16 H locs eV16 w => ?_)
        replace h := bdi h _ eV16
        refine lv_aload_n hx hb dX9_keeps_100 rfl (lv_at hl 0 rfl) ?_
        refine lv_dup hx hb dX9_keeps_101 rfl ?_
        refine m_get X w 0 sm_n0 sm_k0 ci9 31 (by decide) (fvI sm_k0 rfl) rfl fl_X9_11 dX9_keeps_102 ?_
        refine lv_iconst (v := 1) hx hb dX9_keeps_105 (by decide) ?_
        refine lv_iadd hx hb dX9_keeps_106 ?_
        refine m_put X w 0 sm_n0 sm_k0 ci9 31 (by decide) rfl rfl rfl rfl rfl fl_X9_11 dX9_keeps_107 (fun V17 H locs eV17 w => ?_)
        replace h := bdi h _ eV17
        obtain rfl := Option.some.inj h
        exact m_rv X w hr hlocks dX9_keeps_110
      · replace h := ifF h c14
        refine lv_aload_n hx hb dX9_keeps_60 rfl (lv_at hl 0 rfl) ?_
        refine m_get X w 0 sm_n0 sm_k0 ci9 29 (by decide) (fvR sm_k0 rfl sm_p29) rfl fl_X9_66 dX9_keeps_61 ?_
        refine lv_iload_n hx hb dX9_keeps_64 rfl (lv_at hl 2 rfl) ?_
        refine lv_aload_n hx hb dX9_keeps_65 rfl (lv_at hl 0 rfl) ?_
        refine m_get X w 0 sm_n0 sm_k0 ci9 31 (by decide) (fvI sm_k0 rfl) rfl fl_X9_11 dX9_keeps_66 ?_
        refine lv_imul hx hb dX9_keeps_69 ?_
        refine lv_iload_n hx hb dX9_keeps_70 rfl (lv_at hl 3 rfl) ?_
        refine lv_iadd hx hb dX9_keeps_71 ?_
        refine lv_aload_n hx hb dX9_keeps_72 rfl (lv_at hl 0 rfl) ?_
        refine m_get X w 0 sm_n0 sm_k0 ci9 2 (by decide) (fvR sm_k0 rfl sm_p2) rfl fl_X9_28 dX9_keeps_73 ?_
        refine lv_iload_n hx hb dX9_keeps_76 rfl (lv_at hl 3 rfl) ?_
        obtain ⟨g18, h⟩ := cki h
        refine m_iald X w 2 sm_n2 sm_k2 sm_z2 g18 dX9_keeps_77 ?_
        obtain ⟨g19, h⟩ := cki h
        refine m_iast X w 13 sm_n13 sm_k13 sm_z13 g19 dX9_keeps_78 (fun V20 H locs eV20 w => ?_)
        replace h := bdi h _ eV20
        obtain ⟨x21, ex21⟩ : ∃ y : Int32, y = v3 + (1 : Int32) := ⟨_, rfl⟩
        replace h := bdi h _ ex21
        refine lv_iinc (v := x21) (lv' := [(3, .int x21), (0, .ref (ad 0)), (1, .int v1), (2, .int v2)]) hx hb dX9_keeps_79 hl (k := 3) rfl (by rw [ex21]; rfl) (by decide) rfl (fun ls hl => ?_)
        refine lv_goto (tgt := 54) hx hb dX9_keeps_82 (by decide) ?_
        have g := ih54 V20 v1 v2 x21 h
        rw [hG] at g
        exact g H locs ls w (lv_sub hl [1, 2, 3, 0] rfl)
  have B52 : ∀ (V : Vt) (v1 : Int32) (v2 : Int32), f_X9_keeps_52 N V v1 v2 = some V' → G 52 V [(0, .ref (ad 0)), (1, .int v1), (2, .int v2)] [] := by
    intro V v1 v2 h
    rw [hG]
    intro H locs ls w hl
    rw [f_X9_keeps_52] at h
    refine lv_iconst (v := 0) hx hb dX9_keeps_52 (by decide) ?_
    refine lv_istore_n (lv' := [(3, .int (0 : Int32)), (0, .ref (ad 0)), (1, .int v1), (2, .int v2)]) hx hb dX9_keeps_53 rfl hl (by decide) rfl (fun ls hl => ?_)
    have g := L54 N V v1 v2 (0 : Int32) h
    rw [hG] at g
    exact g H locs ls w (lv_sub hl [1, 2, 3, 0] rfl)
  have L14 : ∀ (n14 : Nat) (V : Vt) (v1 : Int32) (v2 : Int32) (v3 : Int32), f_X9_keeps_14 N n14 V v1 v2 v3 = some V' → G 14 V [(0, .ref (ad 0)), (1, .int v1), (2, .int v2), (3, .int v3)] [] := by
    intro n14
    induction n14 with
    | zero => intro V v1 v2 v3 h; rw [f_X9_keeps_14] at h; cases h
    | succ n14 ih14 =>
      intro V v1 v2 v3 h
      rw [hG]
      intro H locs ls w hl
      rw [f_X9_keeps_14] at h
      refine lv_iload_n hx hb dX9_keeps_14 rfl (lv_at hl 3 rfl) ?_
      refine lv_bipush (v := 15) hx hb dX9_keeps_15 (by decide) ?_
      refine lv_iload_n hx hb dX9_keeps_17 rfl (lv_at hl 2 rfl) ?_
      refine lv_imul hx hb dX9_keeps_18 ?_
      refine lv_icmp_ge (tgt := 42) hx hb dX9_keeps_19 (by decide) (fun c22 => ?_) (fun c22 => ?_)
      · replace h := ifT h c22
        refine lv_aload_n hx hb dX9_keeps_42 rfl (lv_at hl 0 rfl) ?_
        refine lv_dup hx hb dX9_keeps_43 rfl ?_
        refine m_get X w 0 sm_n0 sm_k0 ci9 31 (by decide) (fvI sm_k0 rfl) rfl fl_X9_11 dX9_keeps_44 ?_
        refine lv_iconst (v := 1) hx hb dX9_keeps_47 (by decide) ?_
        refine lv_isub hx hb dX9_keeps_48 ?_
        refine m_put X w 0 sm_n0 sm_k0 ci9 31 (by decide) rfl rfl rfl rfl rfl fl_X9_11 dX9_keeps_49 (fun V23 H locs eV23 w => ?_)
        replace h := bdi h _ eV23
        have g := B52 V23 v1 v2 h
        rw [hG] at g
        exact g H locs ls w (lv_sub hl [0, 1, 2] rfl)
      · replace h := ifF h c22
        refine lv_aload_n hx hb dX9_keeps_22 rfl (lv_at hl 0 rfl) ?_
        refine m_get X w 0 sm_n0 sm_k0 ci9 29 (by decide) (fvR sm_k0 rfl sm_p29) rfl fl_X9_66 dX9_keeps_23 ?_
        refine lv_iload_n hx hb dX9_keeps_26 rfl (lv_at hl 3 rfl) ?_
        refine lv_aload_n hx hb dX9_keeps_27 rfl (lv_at hl 0 rfl) ?_
        refine m_get X w 0 sm_n0 sm_k0 ci9 29 (by decide) (fvR sm_k0 rfl sm_p29) rfl fl_X9_66 dX9_keeps_28 ?_
        refine lv_iload_n hx hb dX9_keeps_31 rfl (lv_at hl 3 rfl) ?_
        refine lv_iload_n hx hb dX9_keeps_32 rfl (lv_at hl 2 rfl) ?_
        refine lv_iadd hx hb dX9_keeps_33 ?_
        obtain ⟨g24, h⟩ := cki h
        refine m_iald X w 13 sm_n13 sm_k13 sm_z13 g24 dX9_keeps_34 ?_
        obtain ⟨g25, h⟩ := cki h
        refine m_iast X w 13 sm_n13 sm_k13 sm_z13 g25 dX9_keeps_35 (fun V26 H locs eV26 w => ?_)
        replace h := bdi h _ eV26
        obtain ⟨x27, ex27⟩ : ∃ y : Int32, y = v3 + (1 : Int32) := ⟨_, rfl⟩
        replace h := bdi h _ ex27
        refine lv_iinc (v := x27) (lv' := [(3, .int x27), (0, .ref (ad 0)), (1, .int v1), (2, .int v2)]) hx hb dX9_keeps_36 hl (k := 3) rfl (by rw [ex27]; rfl) (by decide) rfl (fun ls hl => ?_)
        refine lv_goto (tgt := 14) hx hb dX9_keeps_39 (by decide) ?_
        have g := ih14 V26 v1 v2 x27 h
        rw [hG] at g
        exact g H locs ls w (lv_sub hl [1, 2, 3, 0] rfl)
  rw [f_X9_keeps] at h
  refine lv_bipush (v := 33) hx hb dX9_keeps_0 (by decide) ?_
  refine lv_istore_n (lv' := [(2, .int (33 : Int32)), (0, .ref (ad 0)), (1, .int a1)]) hx hb dX9_keeps_2 rfl hl (by decide) rfl (fun ls hl => ?_)
  refine lv_aload_n hx hb dX9_keeps_3 rfl (lv_at hl 1 rfl) ?_
  refine m_get X w 0 sm_n0 sm_k0 ci9 31 (by decide) (fvI sm_k0 rfl) rfl fl_X9_11 dX9_keeps_4 ?_
  refine lv_bipush (v := 16) hx hb dX9_keeps_7 (by decide) ?_
  refine lv_icmp_ne (tgt := 52) hx hb dX9_keeps_9 (by decide) (fun c13 => ?_) (fun c13 => ?_)
  · replace h := ifF h c13
    have g := B52 V a1 (33 : Int32) h
    rw [hG] at g
    exact g H locs ls w (lv_sub hl [1, 2, 0] rfl)
  · replace h := ifT h c13
    refine lv_iconst (v := 0) hx hb dX9_keeps_12 (by decide) ?_
    refine lv_istore_n (lv' := [(3, .int (0 : Int32)), (2, .int (33 : Int32)), (0, .ref (ad 0)), (1, .int a1)]) hx hb dX9_keeps_13 rfl hl (by decide) rfl (fun ls hl => ?_)
    have g := L14 N V a1 (33 : Int32) (0 : Int32) h
    rw [hG] at g
    exact g H locs ls w (lv_sub hl [2, 3, 1, 0] rfl)
def f_X9_areBoth (N : Nat) (a1 : Int32) : Option Int32 := if (a1 &&& (31 : Int32)) = 0 then some (0 : Int32) else if (a1 >>> ((5 : Int32) &&& 31)) = 0 then some (0 : Int32) else some (1 : Int32)
set_option maxHeartbeats 4000000 in
set_option maxRecDepth 100000 in
theorem c_X9_areBoth (l : Launch) (D : va_G) (cy : Nat → ClassId) (ad : Nat → Nat) (A : Nat → Prop) (Kc : State → Prop) (C0 : Cx ad A Kc) (N : Nat) (z : Nat) (V : Vt) (a1 : Int32) (r : Int32) (h : f_X9_areBoth N a1 = some r) : Met l yX9_areBoth (mw yX9_areBoth cX9_areBoth 1 (some .boolean)) { frames := 0, cells := 0, slots := 0, locals := 0 } (PreM D cy ad Kc (SM z) V [.int a1]) (QI D cy ad A r (SM z) V) 0 0 A := by
  refine ct_go C0 (own := RX9) rfl (by decide) rfl ?_
  intro p e s m below meth c ls H locs X hr hlocks hnm hl w
  have hx := X.1.1
  have hb := X.1.2.1
  have hown := X.2.1
  have hts := X.2.2.1
  have hl : lv_has ls 1 [(0, .int a1)] := hl
  rw [f_X9_areBoth] at h
  refine lv_iload_n hx hb dX9_areBoth_0 rfl (lv_at hl 0 rfl) ?_
  refine lv_bipush (v := 31) hx hb dX9_areBoth_1 (by decide) ?_
  refine lv_iand hx hb dX9_areBoth_3 ?_
  refine lv_if_eq (tgt := 17) hx hb dX9_areBoth_4 (by decide) (fun c1 => ?_) (fun c1 => ?_)
  · replace h := ifT h c1
    refine lv_iconst (v := 0) hx hb dX9_areBoth_17 (by decide) ?_
    obtain rfl := Option.some.inj h
    exact m_rz X w hr rfl hlocks dX9_areBoth_18
  · replace h := ifF h c1
    refine lv_iload_n hx hb dX9_areBoth_7 rfl (lv_at hl 0 rfl) ?_
    refine lv_iconst (v := 5) hx hb dX9_areBoth_8 (by decide) ?_
    refine lv_ishr hx hb dX9_areBoth_9 ?_
    refine lv_if_eq (tgt := 17) hx hb dX9_areBoth_10 (by decide) (fun c2 => ?_) (fun c2 => ?_)
    · replace h := ifT h c2
      refine lv_iconst (v := 0) hx hb dX9_areBoth_17 (by decide) ?_
      obtain rfl := Option.some.inj h
      exact m_rz X w hr rfl hlocks dX9_areBoth_18
    · replace h := ifF h c2
      refine lv_iconst (v := 1) hx hb dX9_areBoth_13 (by decide) ?_
      refine lv_goto (tgt := 18) hx hb dX9_areBoth_14 (by decide) ?_
      obtain rfl := Option.some.inj h
      exact m_rz X w hr rfl hlocks dX9_areBoth_18
def f_X9_swaps (N : Nat) (V : Vt) (a1 : Int32) (a2 : Int32) : Option Vt := ck ((0 : Int32) + a1) 5715 (bd (V.2.1 2 ((0 : Int32) + a1).toNatClampNeg) (fun x9 => ck ((0 : Int32) + a2) 5715 (ck ((0 : Int32) + a1) 5715 (bd (sA V 2 ((0 : Int32) + a1).toNatClampNeg (V.2.1 2 ((0 : Int32) + a2).toNatClampNeg)) (fun V12 => ck ((0 : Int32) + a2) 5715 (bd (sA V12 2 ((0 : Int32) + a2).toNatClampNeg x9) (fun V14 => some V14)))))))
set_option maxHeartbeats 4000000 in
set_option maxRecDepth 100000 in
theorem c_X9_swaps (l : Launch) (D : va_G) (cy : Nat → ClassId) (ad : Nat → Nat) (A : Nat → Prop) (Kc : State → Prop) (C0 : Cx ad A Kc) (N : Nat) (z : Nat) (V : Vt) (a1 : Int32) (a2 : Int32) (V' : Vt) (h : f_X9_swaps N V a1 a2 = some V') : Met l yX9_swaps (mw yX9_swaps cX9_swaps 4 none) { frames := 0, cells := 0, slots := 0, locals := 0 } (PreM D cy ad Kc (SM z) V [.ref (ad 0), .int a1, .int a2]) (QV D cy ad A (SM z) V') 0 0 A := by
  refine ct_go C0 (own := RX9) rfl (by decide) rfl ?_
  intro p e s m below meth c ls H locs X hr hlocks hnm hl w
  have hx := X.1.1
  have hb := X.1.2.1
  have hown := X.2.1
  have hts := X.2.2.1
  have hl : lv_has ls 4 [(0, .ref (ad 0)), (1, .int a1), (2, .int a2)] := hl
  rw [f_X9_swaps] at h
  refine lv_aload_n hx hb dX9_swaps_0 rfl (lv_at hl 0 rfl) ?_
  refine m_get X w 0 sm_n0 sm_k0 ci9 2 (by decide) (fvR sm_k0 rfl sm_p2) rfl fl_X9_28 dX9_swaps_1 ?_
  refine lv_iconst (v := 0) hx hb dX9_swaps_4 (by decide) ?_
  refine lv_iload_n hx hb dX9_swaps_5 rfl (lv_at hl 1 rfl) ?_
  refine lv_iadd hx hb dX9_swaps_6 ?_
  obtain ⟨g8, h⟩ := cki h
  refine m_iald X w 2 sm_n2 sm_k2 sm_z2 g8 dX9_swaps_7 ?_
  refine lv_topi (fun x9 ex9 => ?_)
  replace h := bdi h _ ex9
  refine lv_istore_n (lv' := [(3, .int x9), (0, .ref (ad 0)), (1, .int a1), (2, .int a2)]) hx hb dX9_swaps_8 rfl hl (by decide) rfl (fun ls hl => ?_)
  refine lv_aload_n hx hb dX9_swaps_9 rfl (lv_at hl 1 rfl) ?_
  refine m_get X w 0 sm_n0 sm_k0 ci9 2 (by decide) (fvR sm_k0 rfl sm_p2) rfl fl_X9_28 dX9_swaps_10 ?_
  refine lv_iconst (v := 0) hx hb dX9_swaps_13 (by decide) ?_
  refine lv_iload_n hx hb dX9_swaps_14 rfl (lv_at hl 2 rfl) ?_
  refine lv_iadd hx hb dX9_swaps_15 ?_
  refine lv_aload_n hx hb dX9_swaps_16 rfl (lv_at hl 1 rfl) ?_
  refine m_get X w 0 sm_n0 sm_k0 ci9 2 (by decide) (fvR sm_k0 rfl sm_p2) rfl fl_X9_28 dX9_swaps_17 ?_
  refine lv_iconst (v := 0) hx hb dX9_swaps_20 (by decide) ?_
  refine lv_iload_n hx hb dX9_swaps_21 rfl (lv_at hl 3 rfl) ?_
  refine lv_iadd hx hb dX9_swaps_22 ?_
  obtain ⟨g10, h⟩ := cki h
  refine m_iald X w 2 sm_n2 sm_k2 sm_z2 g10 dX9_swaps_23 ?_
  obtain ⟨g11, h⟩ := cki h
  refine m_iast X w 2 sm_n2 sm_k2 sm_z2 g11 dX9_swaps_24 (fun V12 H locs eV12 w => ?_)
  replace h := bdi h _ eV12
  refine lv_aload_n hx hb dX9_swaps_25 rfl (lv_at hl 1 rfl) ?_
  refine m_get X w 0 sm_n0 sm_k0 ci9 2 (by decide) (fvR sm_k0 rfl sm_p2) rfl fl_X9_28 dX9_swaps_26 ?_
  refine lv_iconst (v := 0) hx hb dX9_swaps_29 (by decide) ?_
  refine lv_iload_n hx hb dX9_swaps_30 rfl (lv_at hl 3 rfl) ?_
  refine lv_iadd hx hb dX9_swaps_31 ?_
  refine lv_iload_n hx hb dX9_swaps_32 rfl (lv_at hl 0 rfl) ?_
  obtain ⟨g13, h⟩ := cki h
  refine m_iast X w 2 sm_n2 sm_k2 sm_z2 g13 dX9_swaps_33 (fun V14 H locs eV14 w => ?_)
  replace h := bdi h _ eV14
  obtain rfl := Option.some.inj h
  exact m_rv X w hr hlocks dX9_swaps_34
def f_X9_behind_5 (N : Nat) (V : Vt) : Nat → Int32 → Int32 → Int32 → Option Int32
  | 0, _, _, _ => none
  | n + 1, v2, v3, v4 => if v2 ≤ v4 then some v3 else ck v3 26 (bd (V.2.1 18 v3.toNatClampNeg) (fun x6 => bd (v4 + (1 : Int32)) (fun x7 => (f_X9_behind_5 N V n) v2 x6 x7)))
def f_X9_behind (N : Nat) (V : Vt) (a1 : Int32) (a2 : Int32) : Option Int32 := f_X9_behind_5 N V N a2 a1 (0 : Int32)
set_option maxHeartbeats 4000000 in
set_option maxRecDepth 100000 in
theorem c_X9_behind (l : Launch) (D : va_G) (cy : Nat → ClassId) (ad : Nat → Nat) (A : Nat → Prop) (Kc : State → Prop) (C0 : Cx ad A Kc) (N : Nat) (z : Nat) (V : Vt) (a1 : Int32) (a2 : Int32) (r : Int32) (h : f_X9_behind N V a1 a2 = some r) : Met l yX9_behind (mw yX9_behind cX9_behind 5 (some .int)) { frames := 0, cells := 0, slots := 0, locals := 0 } (PreM D cy ad Kc (SM z) V [.ref (ad 0), .int a1, .int a2]) (QI D cy ad A r (SM z) V) 0 0 A := by
  refine ct_go C0 (own := RX9) rfl (by decide) rfl ?_
  intro p e s m below meth c ls H locs X hr hlocks hnm hl w
  have hx := X.1.1
  have hb := X.1.2.1
  have hown := X.2.1
  have hts := X.2.2.1
  have hl : lv_has ls 5 [(0, .ref (ad 0)), (1, .int a1), (2, .int a2)] := hl
  obtain ⟨G, hG⟩ : ∃ G : Nat → Vt → List (Nat × Value) → List Value → Prop, G = fun pc V lv st => ∀ (H : Heap) (locs : List Loc) (ls : Array Slot), Wd D cy ad A s.heap (SM z) V H locs → lv_has ls 5 lv → W p l e { frames := 0, cells := 0, slots := 0, locals := 0 } s m ([.ref (ad 0), .int a1, .int a2] : List Value).toArray below meth c H locs 0 0 (MQ below (QI D cy ad A r (SM z) V) ([.ref (ad 0), .int a1, .int a2] : List Value).toArray s 0 0 A) (F0 m pc ls st) := ⟨_, rfl⟩
  have L5 : ∀ (n5 : Nat) (v2 : Int32) (v3 : Int32) (v4 : Int32), f_X9_behind_5 N V n5 v2 v3 v4 = some r → G 5 V [(0, .ref (ad 0)), (2, .int v2), (3, .int v3), (4, .int v4)] [] := by
    intro n5
    induction n5 with
    | zero => intro v2 v3 v4 h; rw [f_X9_behind_5] at h; cases h
    | succ n5 ih5 =>
      intro v2 v3 v4 h
      rw [hG]
      intro H locs ls w hl
      rw [f_X9_behind_5] at h
      refine lv_iload hx hb dX9_behind_5 (lv_at hl 3 rfl) ?_
      refine lv_iload_n hx hb dX9_behind_7 rfl (lv_at hl 1 rfl) ?_
      refine lv_icmp_ge (tgt := 24) hx hb dX9_behind_8 (by decide) (fun c4 => ?_) (fun c4 => ?_)
      · replace h := ifT h c4
        refine lv_iload_n hx hb dX9_behind_24 rfl (lv_at hl 2 rfl) ?_
        obtain rfl := Option.some.inj h
        exact m_ri X w hr hlocks dX9_behind_25
      · replace h := ifF h c4
        refine lv_aload_n hx hb dX9_behind_11 rfl (lv_at hl 0 rfl) ?_
        refine m_get X w 0 sm_n0 sm_k0 ci9 35 (by decide) (fvR sm_k0 rfl sm_p35) rfl fl_X9_81 dX9_behind_12 ?_
        refine lv_iload_n hx hb dX9_behind_15 rfl (lv_at hl 2 rfl) ?_
        obtain ⟨g5, h⟩ := cki h
        refine m_iald X w 18 sm_n18 sm_k18 sm_z18 g5 dX9_behind_16 ?_
        refine lv_topi (fun x6 ex6 => ?_)
        replace h := bdi h _ ex6
        refine lv_istore_n (lv' := [(3, .int x6), (0, .ref (ad 0)), (2, .int v2), (4, .int v4)]) hx hb dX9_behind_17 rfl hl (by decide) rfl (fun ls hl => ?_)
        obtain ⟨x7, ex7⟩ : ∃ y : Int32, y = v4 + (1 : Int32) := ⟨_, rfl⟩
        replace h := bdi h _ ex7
        refine lv_iinc (v := x7) (lv' := [(4, .int x7), (3, .int x6), (0, .ref (ad 0)), (2, .int v2)]) hx hb dX9_behind_18 hl (k := 3) rfl (by rw [ex7]; rfl) (by decide) rfl (fun ls hl => ?_)
        refine lv_goto (tgt := 5) hx hb dX9_behind_21 (by decide) ?_
        have g := ih5 v2 x6 x7 h
        rw [hG] at g
        exact g H locs ls w (lv_sub hl [2, 3, 1, 0] rfl)
  rw [f_X9_behind] at h
  refine lv_iload_n hx hb dX9_behind_0 rfl (lv_at hl 1 rfl) ?_
  refine lv_istore_n (lv' := [(3, .int a1), (0, .ref (ad 0)), (1, .int a1), (2, .int a2)]) hx hb dX9_behind_1 rfl hl (by decide) rfl (fun ls hl => ?_)
  refine lv_iconst (v := 0) hx hb dX9_behind_2 (by decide) ?_
  refine lv_istore (lv' := [(4, .int (0 : Int32)), (3, .int a1), (0, .ref (ad 0)), (1, .int a1), (2, .int a2)]) hx hb dX9_behind_3 hl (by decide) rfl (fun ls hl => ?_)
  have g := L5 N a2 a1 (0 : Int32) h
  rw [hG] at g
  exact g H locs ls w (lv_sub hl [2, 4, 1, 0] rfl)
def f_X9_ringOf_9 (N : Nat) (V : Vt) : Nat → Int32 → Int32 → Int32 → Option Int32
  | 0, _, _, _ => none
  | n + 1, v1, v2, v3 => if v3 = v1 then some v2 else if (25 : Int32) < v2 then some v2 else bd (v2 + (1 : Int32)) (fun x10 => ck v3 26 (bd (V.2.1 18 v3.toNatClampNeg) (fun x12 => (f_X9_ringOf_9 N V n) v1 x10 x12)))
def f_X9_ringOf (N : Nat) (V : Vt) (a1 : Int32) : Option Int32 := ck a1 26 (bd (V.2.1 18 a1.toNatClampNeg) (fun x7 => f_X9_ringOf_9 N V N a1 (1 : Int32) x7))
set_option maxHeartbeats 4000000 in
set_option maxRecDepth 100000 in
theorem c_X9_ringOf (l : Launch) (D : va_G) (cy : Nat → ClassId) (ad : Nat → Nat) (A : Nat → Prop) (Kc : State → Prop) (C0 : Cx ad A Kc) (N : Nat) (z : Nat) (V : Vt) (a1 : Int32) (r : Int32) (h : f_X9_ringOf N V a1 = some r) : Met l yX9_ringOf (mw yX9_ringOf cX9_ringOf 4 (some .int)) { frames := 0, cells := 0, slots := 0, locals := 0 } (PreM D cy ad Kc (SM z) V [.ref (ad 0), .int a1]) (QI D cy ad A r (SM z) V) 0 0 A := by
  refine ct_go C0 (own := RX9) rfl (by decide) rfl ?_
  intro p e s m below meth c ls H locs X hr hlocks hnm hl w
  have hx := X.1.1
  have hb := X.1.2.1
  have hown := X.2.1
  have hts := X.2.2.1
  have hl : lv_has ls 4 [(0, .ref (ad 0)), (1, .int a1)] := hl
  obtain ⟨G, hG⟩ : ∃ G : Nat → Vt → List (Nat × Value) → List Value → Prop, G = fun pc V lv st => ∀ (H : Heap) (locs : List Loc) (ls : Array Slot), Wd D cy ad A s.heap (SM z) V H locs → lv_has ls 4 lv → W p l e { frames := 0, cells := 0, slots := 0, locals := 0 } s m ([.ref (ad 0), .int a1] : List Value).toArray below meth c H locs 0 0 (MQ below (QI D cy ad A r (SM z) V) ([.ref (ad 0), .int a1] : List Value).toArray s 0 0 A) (F0 m pc ls st) := ⟨_, rfl⟩
  have L9 : ∀ (n9 : Nat) (v1 : Int32) (v2 : Int32) (v3 : Int32), f_X9_ringOf_9 N V n9 v1 v2 v3 = some r → G 9 V [(0, .ref (ad 0)), (1, .int v1), (2, .int v2), (3, .int v3)] [] := by
    intro n9
    induction n9 with
    | zero => intro v1 v2 v3 h; rw [f_X9_ringOf_9] at h; cases h
    | succ n9 ih9 =>
      intro v1 v2 v3 h
      rw [hG]
      intro H locs ls w hl
      rw [f_X9_ringOf_9] at h
      refine lv_iload_n hx hb dX9_ringOf_9 rfl (lv_at hl 3 rfl) ?_
      refine lv_iload_n hx hb dX9_ringOf_10 rfl (lv_at hl 1 rfl) ?_
      refine lv_icmp_eq (tgt := 33) hx hb dX9_ringOf_11 (by decide) (fun c8 => ?_) (fun c8 => ?_)
      · replace h := ifT h c8
        refine lv_iload_n hx hb dX9_ringOf_33 rfl (lv_at hl 2 rfl) ?_
        obtain rfl := Option.some.inj h
        exact m_ri X w hr hlocks dX9_ringOf_34
      · replace h := ifF h c8
        refine lv_iload_n hx hb dX9_ringOf_14 rfl (lv_at hl 2 rfl) ?_
        refine lv_bipush (v := 25) hx hb dX9_ringOf_15 (by decide) ?_
        refine lv_icmp_gt (tgt := 33) hx hb dX9_ringOf_17 (by decide) (fun c9 => ?_) (fun c9 => ?_)
        · replace h := ifT h c9
          refine lv_iload_n hx hb dX9_ringOf_33 rfl (lv_at hl 2 rfl) ?_
          obtain rfl := Option.some.inj h
          exact m_ri X w hr hlocks dX9_ringOf_34
        · replace h := ifF h c9
          obtain ⟨x10, ex10⟩ : ∃ y : Int32, y = v2 + (1 : Int32) := ⟨_, rfl⟩
          replace h := bdi h _ ex10
          refine lv_iinc (v := x10) (lv' := [(2, .int x10), (0, .ref (ad 0)), (1, .int v1), (3, .int v3)]) hx hb dX9_ringOf_20 hl (k := 2) rfl (by rw [ex10]; rfl) (by decide) rfl (fun ls hl => ?_)
          refine lv_aload_n hx hb dX9_ringOf_23 rfl (lv_at hl 1 rfl) ?_
          refine m_get X w 0 sm_n0 sm_k0 ci9 35 (by decide) (fvR sm_k0 rfl sm_p35) rfl fl_X9_81 dX9_ringOf_24 ?_
          refine lv_iload_n hx hb dX9_ringOf_27 rfl (lv_at hl 3 rfl) ?_
          obtain ⟨g11, h⟩ := cki h
          refine m_iald X w 18 sm_n18 sm_k18 sm_z18 g11 dX9_ringOf_28 ?_
          refine lv_topi (fun x12 ex12 => ?_)
          replace h := bdi h _ ex12
          refine lv_istore_n (lv' := [(3, .int x12), (2, .int x10), (0, .ref (ad 0)), (1, .int v1)]) hx hb dX9_ringOf_29 rfl hl (by decide) rfl (fun ls hl => ?_)
          refine lv_goto (tgt := 9) hx hb dX9_ringOf_30 (by decide) ?_
          have g := ih9 v1 x10 x12 h
          rw [hG] at g
          exact g H locs ls w (lv_sub hl [2, 3, 1, 0] rfl)
  rw [f_X9_ringOf] at h
  refine lv_iconst (v := 1) hx hb dX9_ringOf_0 (by decide) ?_
  refine lv_istore_n (lv' := [(2, .int (1 : Int32)), (0, .ref (ad 0)), (1, .int a1)]) hx hb dX9_ringOf_1 rfl hl (by decide) rfl (fun ls hl => ?_)
  refine lv_aload_n hx hb dX9_ringOf_2 rfl (lv_at hl 1 rfl) ?_
  refine m_get X w 0 sm_n0 sm_k0 ci9 35 (by decide) (fvR sm_k0 rfl sm_p35) rfl fl_X9_81 dX9_ringOf_3 ?_
  refine lv_iload_n hx hb dX9_ringOf_6 rfl (lv_at hl 2 rfl) ?_
  obtain ⟨g6, h⟩ := cki h
  refine m_iald X w 18 sm_n18 sm_k18 sm_z18 g6 dX9_ringOf_7 ?_
  refine lv_topi (fun x7 ex7 => ?_)
  replace h := bdi h _ ex7
  refine lv_istore_n (lv' := [(3, .int x7), (2, .int (1 : Int32)), (0, .ref (ad 0)), (1, .int a1)]) hx hb dX9_ringOf_8 rfl hl (by decide) rfl (fun ls hl => ?_)
  have g := L9 N a1 (1 : Int32) x7 h
  rw [hG] at g
  exact g H locs ls w (lv_sub hl [2, 3, 1, 0] rfl)
def f_X9_ringSet_11 (N : Nat) (V : Vt) : Nat → Int32 → Int32 → Int32 → Option Int32
  | 0, _, _, _ => none
  | n + 1, v1, v2, v3 => if v3 = v1 then some v2 else bd (v2 ||| ((1 : Int32) <<< (v3 &&& 31))) (fun x11 => ck v3 26 (bd (V.2.1 18 v3.toNatClampNeg) (fun x13 => (f_X9_ringSet_11 N V n) v1 x11 x13)))
def f_X9_ringSet (N : Nat) (V : Vt) (a1 : Int32) : Option Int32 := bd ((1 : Int32) <<< (a1 &&& 31)) (fun x7 => ck a1 26 (bd (V.2.1 18 a1.toNatClampNeg) (fun x9 => f_X9_ringSet_11 N V N a1 x7 x9)))
set_option maxHeartbeats 4000000 in
set_option maxRecDepth 100000 in
theorem c_X9_ringSet (l : Launch) (D : va_G) (cy : Nat → ClassId) (ad : Nat → Nat) (A : Nat → Prop) (Kc : State → Prop) (C0 : Cx ad A Kc) (N : Nat) (z : Nat) (V : Vt) (a1 : Int32) (r : Int32) (h : f_X9_ringSet N V a1 = some r) : Met l yX9_ringSet (mw yX9_ringSet cX9_ringSet 4 (some .int)) { frames := 0, cells := 0, slots := 0, locals := 0 } (PreM D cy ad Kc (SM z) V [.ref (ad 0), .int a1]) (QI D cy ad A r (SM z) V) 0 0 A := by
  refine ct_go C0 (own := RX9) rfl (by decide) rfl ?_
  intro p e s m below meth c ls H locs X hr hlocks hnm hl w
  have hx := X.1.1
  have hb := X.1.2.1
  have hown := X.2.1
  have hts := X.2.2.1
  have hl : lv_has ls 4 [(0, .ref (ad 0)), (1, .int a1)] := hl
  obtain ⟨G, hG⟩ : ∃ G : Nat → Vt → List (Nat × Value) → List Value → Prop, G = fun pc V lv st => ∀ (H : Heap) (locs : List Loc) (ls : Array Slot), Wd D cy ad A s.heap (SM z) V H locs → lv_has ls 4 lv → W p l e { frames := 0, cells := 0, slots := 0, locals := 0 } s m ([.ref (ad 0), .int a1] : List Value).toArray below meth c H locs 0 0 (MQ below (QI D cy ad A r (SM z) V) ([.ref (ad 0), .int a1] : List Value).toArray s 0 0 A) (F0 m pc ls st) := ⟨_, rfl⟩
  have L11 : ∀ (n11 : Nat) (v1 : Int32) (v2 : Int32) (v3 : Int32), f_X9_ringSet_11 N V n11 v1 v2 v3 = some r → G 11 V [(0, .ref (ad 0)), (1, .int v1), (2, .int v2), (3, .int v3)] [] := by
    intro n11
    induction n11 with
    | zero => intro v1 v2 v3 h; rw [f_X9_ringSet_11] at h; cases h
    | succ n11 ih11 =>
      intro v1 v2 v3 h
      rw [hG]
      intro H locs ls w hl
      rw [f_X9_ringSet_11] at h
      refine lv_iload_n hx hb dX9_ringSet_11 rfl (lv_at hl 3 rfl) ?_
      refine lv_iload_n hx hb dX9_ringSet_12 rfl (lv_at hl 1 rfl) ?_
      refine lv_icmp_eq (tgt := 32) hx hb dX9_ringSet_13 (by decide) (fun c10 => ?_) (fun c10 => ?_)
      · replace h := ifT h c10
        refine lv_iload_n hx hb dX9_ringSet_32 rfl (lv_at hl 2 rfl) ?_
        obtain rfl := Option.some.inj h
        exact m_ri X w hr hlocks dX9_ringSet_33
      · replace h := ifF h c10
        refine lv_iload_n hx hb dX9_ringSet_16 rfl (lv_at hl 2 rfl) ?_
        refine lv_iconst (v := 1) hx hb dX9_ringSet_17 (by decide) ?_
        refine lv_iload_n hx hb dX9_ringSet_18 rfl (lv_at hl 3 rfl) ?_
        refine lv_ishl hx hb dX9_ringSet_19 ?_
        refine lv_ior hx hb dX9_ringSet_20 ?_
        refine lv_topi (fun x11 ex11 => ?_)
        replace h := bdi h _ ex11
        refine lv_istore_n (lv' := [(2, .int x11), (0, .ref (ad 0)), (1, .int v1), (3, .int v3)]) hx hb dX9_ringSet_21 rfl hl (by decide) rfl (fun ls hl => ?_)
        refine lv_aload_n hx hb dX9_ringSet_22 rfl (lv_at hl 1 rfl) ?_
        refine m_get X w 0 sm_n0 sm_k0 ci9 35 (by decide) (fvR sm_k0 rfl sm_p35) rfl fl_X9_81 dX9_ringSet_23 ?_
        refine lv_iload_n hx hb dX9_ringSet_26 rfl (lv_at hl 3 rfl) ?_
        obtain ⟨g12, h⟩ := cki h
        refine m_iald X w 18 sm_n18 sm_k18 sm_z18 g12 dX9_ringSet_27 ?_
        refine lv_topi (fun x13 ex13 => ?_)
        replace h := bdi h _ ex13
        refine lv_istore_n (lv' := [(3, .int x13), (2, .int x11), (0, .ref (ad 0)), (1, .int v1)]) hx hb dX9_ringSet_28 rfl hl (by decide) rfl (fun ls hl => ?_)
        refine lv_goto (tgt := 11) hx hb dX9_ringSet_29 (by decide) ?_
        have g := ih11 v1 x11 x13 h
        rw [hG] at g
        exact g H locs ls w (lv_sub hl [2, 3, 1, 0] rfl)
  rw [f_X9_ringSet] at h
  refine lv_iconst (v := 1) hx hb dX9_ringSet_0 (by decide) ?_
  refine lv_iload_n hx hb dX9_ringSet_1 rfl (lv_at hl 1 rfl) ?_
  refine lv_ishl hx hb dX9_ringSet_2 ?_
  refine lv_topi (fun x7 ex7 => ?_)
  replace h := bdi h _ ex7
  refine lv_istore_n (lv' := [(2, .int x7), (0, .ref (ad 0)), (1, .int a1)]) hx hb dX9_ringSet_3 rfl hl (by decide) rfl (fun ls hl => ?_)
  refine lv_aload_n hx hb dX9_ringSet_4 rfl (lv_at hl 1 rfl) ?_
  refine m_get X w 0 sm_n0 sm_k0 ci9 35 (by decide) (fvR sm_k0 rfl sm_p35) rfl fl_X9_81 dX9_ringSet_5 ?_
  refine lv_iload_n hx hb dX9_ringSet_8 rfl (lv_at hl 2 rfl) ?_
  obtain ⟨g8, h⟩ := cki h
  refine m_iald X w 18 sm_n18 sm_k18 sm_z18 g8 dX9_ringSet_9 ?_
  refine lv_topi (fun x9 ex9 => ?_)
  replace h := bdi h _ ex9
  refine lv_istore_n (lv' := [(3, .int x9), (2, .int x7), (0, .ref (ad 0)), (1, .int a1)]) hx hb dX9_ringSet_10 rfl hl (by decide) rfl (fun ls hl => ?_)
  have g := L11 N a1 x7 x9 h
  rw [hG] at g
  exact g H locs ls w (lv_sub hl [2, 3, 1, 0] rfl)
def f_X9_forget (N : Nat) (V : Vt) : Option (Int32 × Vt) := ck (104 : Int32) 5715 (ck (105 : Int32) 5715 (bd ((V.2.1 2 (104 : Int32).toNatClampNeg) + (V.2.1 2 (105 : Int32).toNatClampNeg)) (fun x10 => ck (104 : Int32) 5715 (bd (sA V 2 (104 : Int32).toNatClampNeg (0 : Int32)) (fun V12 => ck (105 : Int32) 5715 (bd (sA V12 2 (105 : Int32).toNatClampNeg (0 : Int32)) (fun V14 => some (x10, V14))))))))
set_option maxHeartbeats 4000000 in
set_option maxRecDepth 100000 in
theorem c_X9_forget (l : Launch) (D : va_G) (cy : Nat → ClassId) (ad : Nat → Nat) (A : Nat → Prop) (Kc : State → Prop) (C0 : Cx ad A Kc) (N : Nat) (z : Nat) (V : Vt) (r : Int32) (V' : Vt) (h : f_X9_forget N V = some (r, V')) : Met l yX9_forget (mw yX9_forget cX9_forget 2 (some .int)) { frames := 0, cells := 0, slots := 0, locals := 0 } (PreM D cy ad Kc (SM z) V [.ref (ad 0)]) (QI D cy ad A r (SM z) V') 0 0 A := by
  refine ct_go C0 (own := RX9) rfl (by decide) rfl ?_
  intro p e s m below meth c ls H locs X hr hlocks hnm hl w
  have hx := X.1.1
  have hb := X.1.2.1
  have hown := X.2.1
  have hts := X.2.2.1
  have hl : lv_has ls 2 [(0, .ref (ad 0))] := hl
  rw [f_X9_forget] at h
  refine lv_aload_n hx hb dX9_forget_0 rfl (lv_at hl 0 rfl) ?_
  refine m_get X w 0 sm_n0 sm_k0 ci9 2 (by decide) (fvR sm_k0 rfl sm_p2) rfl fl_X9_28 dX9_forget_1 ?_
  refine lv_bipush (v := 104) hx hb dX9_forget_4 (by decide) ?_
  obtain ⟨g8, h⟩ := cki h
  refine m_iald X w 2 sm_n2 sm_k2 sm_z2 g8 dX9_forget_6 ?_
  refine lv_aload_n hx hb dX9_forget_7 rfl (lv_at hl 0 rfl) ?_
  refine m_get X w 0 sm_n0 sm_k0 ci9 2 (by decide) (fvR sm_k0 rfl sm_p2) rfl fl_X9_28 dX9_forget_8 ?_
  refine lv_bipush (v := 105) hx hb dX9_forget_11 (by decide) ?_
  obtain ⟨g9, h⟩ := cki h
  refine m_iald X w 2 sm_n2 sm_k2 sm_z2 g9 dX9_forget_13 ?_
  refine lv_iadd hx hb dX9_forget_14 ?_
  refine lv_topi (fun x10 ex10 => ?_)
  replace h := bdi h _ ex10
  refine lv_istore_n (lv' := [(1, .int x10), (0, .ref (ad 0))]) hx hb dX9_forget_15 rfl hl (by decide) rfl (fun ls hl => ?_)
  refine lv_aload_n hx hb dX9_forget_16 rfl (lv_at hl 1 rfl) ?_
  refine m_get X w 0 sm_n0 sm_k0 ci9 2 (by decide) (fvR sm_k0 rfl sm_p2) rfl fl_X9_28 dX9_forget_17 ?_
  refine lv_bipush (v := 104) hx hb dX9_forget_20 (by decide) ?_
  refine lv_iconst (v := 0) hx hb dX9_forget_22 (by decide) ?_
  obtain ⟨g11, h⟩ := cki h
  refine m_iast X w 2 sm_n2 sm_k2 sm_z2 g11 dX9_forget_23 (fun V12 H locs eV12 w => ?_)
  replace h := bdi h _ eV12
  refine lv_aload_n hx hb dX9_forget_24 rfl (lv_at hl 1 rfl) ?_
  refine m_get X w 0 sm_n0 sm_k0 ci9 2 (by decide) (fvR sm_k0 rfl sm_p2) rfl fl_X9_28 dX9_forget_25 ?_
  refine lv_bipush (v := 105) hx hb dX9_forget_28 (by decide) ?_
  refine lv_iconst (v := 0) hx hb dX9_forget_30 (by decide) ?_
  obtain ⟨g13, h⟩ := cki h
  refine m_iast X w 2 sm_n2 sm_k2 sm_z2 g13 dX9_forget_31 (fun V14 H locs eV14 w => ?_)
  replace h := bdi h _ eV14
  refine lv_iload_n hx hb dX9_forget_32 rfl (lv_at hl 0 rfl) ?_
  obtain ⟨rfl, rfl⟩ := reti h
  exact m_ri X w hr hlocks dX9_forget_33
def f_X9_stopped (N : Nat) (V : Vt) : Option Int32 := some (V.1 0 40)
set_option maxHeartbeats 4000000 in
set_option maxRecDepth 100000 in
theorem c_X9_stopped (l : Launch) (D : va_G) (cy : Nat → ClassId) (ad : Nat → Nat) (A : Nat → Prop) (Kc : State → Prop) (C0 : Cx ad A Kc) (N : Nat) (z : Nat) (V : Vt) (r : Int32) (h : f_X9_stopped N V = some r) : Met l yX9_stopped (mw yX9_stopped cX9_stopped 1 (some .int)) { frames := 0, cells := 0, slots := 0, locals := 0 } (PreM D cy ad Kc (SM z) V [.ref (ad 0)]) (QI D cy ad A r (SM z) V) 0 0 A := by
  refine ct_go C0 (own := RX9) rfl (by decide) rfl ?_
  intro p e s m below meth c ls H locs X hr hlocks hnm hl w
  have hx := X.1.1
  have hb := X.1.2.1
  have hown := X.2.1
  have hts := X.2.2.1
  have hl : lv_has ls 1 [(0, .ref (ad 0))] := hl
  rw [f_X9_stopped] at h
  refine lv_aload_n hx hb dX9_stopped_0 rfl (lv_at hl 0 rfl) ?_
  refine m_get X w 0 sm_n0 sm_k0 ci9 40 (by decide) (fvI sm_k0 rfl) rfl fl_X9_97 dX9_stopped_1 ?_
  obtain rfl := Option.some.inj h
  exact m_ri X w hr hlocks dX9_stopped_4
def f_X9_small (N : Nat) (a1 : Int64) : Option Int32 := if (lg_cmp a1 (0 : Int64)) < 0 then some (-1 : Int32) else if (lg_cmp a1 (1000000 : Int64)) ≤ 0 then some (a1.toInt32) else some (-1 : Int32)
set_option maxHeartbeats 4000000 in
set_option maxRecDepth 100000 in
theorem c_X9_small (l : Launch) (D : va_G) (cy : Nat → ClassId) (ad : Nat → Nat) (A : Nat → Prop) (Kc : State → Prop) (C0 : Cx ad A Kc) (N : Nat) (z : Nat) (V : Vt) (a1 : Int64) (r : Int32) (h : f_X9_small N a1 = some r) : Met l yX9_small (mw yX9_small cX9_small 2 (some .int)) { frames := 0, cells := 0, slots := 0, locals := 0 } (PreM D cy ad Kc (SM z) V [.long a1]) (QI D cy ad A r (SM z) V) 0 0 A := by
  refine ct_go C0 (own := RX9) rfl (by decide) rfl ?_
  intro p e s m below meth c ls H locs X hr hlocks hnm hl w
  have hx := X.1.1
  have hb := X.1.2.1
  have hown := X.2.1
  have hts := X.2.2.1
  have hl : lv_has ls 2 [(0, .long a1)] := hl
  rw [f_X9_small] at h
  refine lv_lload_n hx hb dX9_small_0 rfl (lv_at hl 0 rfl) ?_
  refine lv_lconst (v := 0) hx hb dX9_small_1 (by decide) ?_
  refine W.lcmp hx hb dX9_small_2 ?_
  refine lv_if_lt (tgt := 14) hx hb dX9_small_3 (by decide) (fun c1 => ?_) (fun c1 => ?_)
  · replace h := ifT h c1
    refine lv_iconst (v := (-1)) hx hb dX9_small_14 (by decide) ?_
    refine lv_goto (tgt := 20) hx hb dX9_small_15 (by decide) ?_
    obtain rfl := Option.some.inj h
    exact m_ri X w hr hlocks dX9_small_20
  · replace h := ifF h c1
    refine lv_lload_n hx hb dX9_small_6 rfl (lv_at hl 0 rfl) ?_
    refine lv_ldc2 (v := 1000000) hx hb hown (hts _ kl_X9_442) dX9_small_7 ?_
    refine W.lcmp hx hb dX9_small_10 ?_
    refine lv_if_le (tgt := 18) hx hb dX9_small_11 (by decide) (fun c2 => ?_) (fun c2 => ?_)
    · replace h := ifT h c2
      refine lv_lload_n hx hb dX9_small_18 rfl (lv_at hl 0 rfl) ?_
      refine lv_l2i hx hb dX9_small_19 rfl ?_
      obtain rfl := Option.some.inj h
      exact m_ri X w hr hlocks dX9_small_20
    · replace h := ifF h c2
      refine lv_iconst (v := (-1)) hx hb dX9_small_14 (by decide) ?_
      refine lv_goto (tgt := 20) hx hb dX9_small_15 (by decide) ?_
      obtain rfl := Option.some.inj h
      exact m_ri X w hr hlocks dX9_small_20
def f_X9_draws (N : Nat) (V : Vt) (a1 : Int32) : Option (Int32 × Vt) := bd (sF V 0 49 (((((1103 : Int64) * ((V.1 0 49).toInt64)) + (12345 : Int64)) - (((1103 : Int64) * ((V.1 0 49).toInt64)) + (12345 : Int64)) / (1000003 : Int64) * (1000003 : Int64)).toInt32)) (fun V3 => cz a1 (some ((V3.1 0 49) - (V3.1 0 49) / a1 * a1, V3)))
set_option maxHeartbeats 4000000 in
set_option maxRecDepth 100000 in
theorem c_X9_draws (l : Launch) (D : va_G) (cy : Nat → ClassId) (ad : Nat → Nat) (A : Nat → Prop) (Kc : State → Prop) (C0 : Cx ad A Kc) (N : Nat) (z : Nat) (V : Vt) (a1 : Int32) (r : Int32) (V' : Vt) (h : f_X9_draws N V a1 = some (r, V')) : Met l yX9_draws (mw yX9_draws cX9_draws 2 (some .int)) { frames := 0, cells := 0, slots := 0, locals := 0 } (PreM D cy ad Kc (SM z) V [.ref (ad 0), .int a1]) (QI D cy ad A r (SM z) V') 0 0 A := by
  refine ct_go C0 (own := RX9) rfl (by decide) rfl ?_
  intro p e s m below meth c ls H locs X hr hlocks hnm hl w
  have hx := X.1.1
  have hb := X.1.2.1
  have hown := X.2.1
  have hts := X.2.2.1
  have hl : lv_has ls 2 [(0, .ref (ad 0)), (1, .int a1)] := hl
  rw [f_X9_draws] at h
  refine lv_aload_n hx hb dX9_draws_0 rfl (lv_at hl 0 rfl) ?_
  refine lv_ldc2 (v := 1103) hx hb hown (hts _ kl_X9_455) dX9_draws_1 ?_
  refine lv_aload_n hx hb dX9_draws_4 rfl (lv_at hl 0 rfl) ?_
  refine m_get X w 0 sm_n0 sm_k0 ci9 49 (by decide) (fvI sm_k0 rfl) rfl fl_X9_457 dX9_draws_5 ?_
  refine lv_i2l hx hb dX9_draws_8 rfl ?_
  refine lv_lmul hx hb dX9_draws_9 ?_
  refine lv_ldc2 (v := 12345) hx hb hown (hts _ kl_X9_460) dX9_draws_10 ?_
  refine lv_ladd hx hb dX9_draws_13 ?_
  refine lv_ldc2 (v := 1000003) hx hb hown (hts _ kl_X9_462) dX9_draws_14 ?_
  refine lv_lrem hx hb dX9_draws_17 (by decide) ?_
  refine lv_l2i hx hb dX9_draws_18 rfl ?_
  refine m_put X w 0 sm_n0 sm_k0 ci9 49 (by decide) rfl rfl rfl rfl rfl fl_X9_457 dX9_draws_19 (fun V3 H locs eV3 w => ?_)
  replace h := bdi h _ eV3
  refine lv_aload_n hx hb dX9_draws_22 rfl (lv_at hl 0 rfl) ?_
  refine m_get X w 0 sm_n0 sm_k0 ci9 49 (by decide) (fvI sm_k0 rfl) rfl fl_X9_457 dX9_draws_23 ?_
  refine lv_iload_n hx hb dX9_draws_26 rfl (lv_at hl 1 rfl) ?_
  obtain ⟨g4, h⟩ := czi h
  refine lv_irem hx hb dX9_draws_27 g4 ?_
  obtain ⟨rfl, rfl⟩ := reti h
  exact m_ri X w hr hlocks dX9_draws_28
def f_X9_status (N : Nat) (V : Vt) : Option Int32 := some (V.1 0 0)
set_option maxHeartbeats 4000000 in
set_option maxRecDepth 100000 in
theorem c_X9_status (l : Launch) (D : va_G) (cy : Nat → ClassId) (ad : Nat → Nat) (A : Nat → Prop) (Kc : State → Prop) (C0 : Cx ad A Kc) (N : Nat) (z : Nat) (V : Vt) (r : Int32) (h : f_X9_status N V = some r) : Met l yX9_status (mw yX9_status cX9_status 1 (some .int)) { frames := 0, cells := 0, slots := 0, locals := 0 } (PreM D cy ad Kc (SM z) V [.ref (ad 0)]) (QI D cy ad A r (SM z) V) 0 0 A := by
  refine ct_go C0 (own := RX9) rfl (by decide) rfl ?_
  intro p e s m below meth c ls H locs X hr hlocks hnm hl w
  have hx := X.1.1
  have hb := X.1.2.1
  have hown := X.2.1
  have hts := X.2.2.1
  have hl : lv_has ls 1 [(0, .ref (ad 0))] := hl
  rw [f_X9_status] at h
  refine lv_aload_n hx hb dX9_status_0 rfl (lv_at hl 0 rfl) ?_
  refine m_get X w 0 sm_n0 sm_k0 ci9 0 (by decide) (fvI sm_k0 rfl) rfl fl_X9_3 dX9_status_1 ?_
  obtain rfl := Option.some.inj h
  exact m_ri X w hr hlocks dX9_status_4
def f_X9_goodAnew (N : Nat) (V : Vt) (a1 : Int32) : Option (Int32 × Vt) := bd (sF V 0 31 (0 : Int32)) (fun V5 => ob (f_X9_good N V5 a1) (fun r6 V8 => some (r6, V8)))
set_option maxHeartbeats 4000000 in
set_option maxRecDepth 100000 in
theorem c_X9_goodAnew (l : Launch) (D : va_G) (cy : Nat → ClassId) (ad : Nat → Nat) (A : Nat → Prop) (Kc : State → Prop) (C0 : Cx ad A Kc) (N : Nat) (z : Nat) (V : Vt) (a1 : Int32) (r : Int32) (V' : Vt) (h : f_X9_goodAnew N V a1 = some (r, V')) : Met l yX9_goodAnew (mw yX9_goodAnew cX9_goodAnew 2 (some .int)) { frames := 1, cells := 0, slots := 0, locals := 21 } (PreM D cy ad Kc (SM z) V [.ref (ad 0), .int a1]) (QI D cy ad A r (SM z) V') 0 0 A := by
  refine ct_go C0 (own := RX9) rfl (by decide) rfl ?_
  intro p e s m below meth c ls H locs X hr hlocks hnm hl w
  have hx := X.1.1
  have hb := X.1.2.1
  have hown := X.2.1
  have hts := X.2.2.1
  have hl : lv_has ls 2 [(0, .ref (ad 0)), (1, .int a1)] := hl
  rw [f_X9_goodAnew] at h
  refine lv_aload_n hx hb dX9_goodAnew_0 rfl (lv_at hl 0 rfl) ?_
  refine lv_iconst (v := 0) hx hb dX9_goodAnew_1 (by decide) ?_
  refine m_put X w 0 sm_n0 sm_k0 ci9 31 (by decide) rfl rfl rfl rfl rfl fl_X9_11 dX9_goodAnew_2 (fun V5 H locs eV5 w => ?_)
  replace h := bdi h _ eV5
  refine lv_aload_n hx hb dX9_goodAnew_5 rfl (lv_at hl 0 rfl) ?_
  refine lv_iload_n hx hb dX9_goodAnew_6 rfl (lv_at hl 1 rfl) ?_
  obtain ⟨r6, V8, q7, h⟩ := obi h
  refine m_ci (m_rV (As := [.int a1]) (rest := []) X w hl mi_X9_good ml_X9_14 0 sm_n0 sm_k0 rfl (c_X9_good l D cy ad A Kc C0 N z V5 a1 r6 V8 q7) ⟨⟨rfl, rfl, Nat.le_of_ble_eq_true rfl, Nat.le_of_ble_eq_true rfl⟩, Nat.le_of_ble_eq_true rfl, Nat.le_of_ble_eq_true rfl⟩ rfl rfl (Nat.le_of_ble_eq_true rfl) dX9_goodAnew_7) w (fun H locs w => ?_)
  obtain ⟨rfl, rfl⟩ := reti h
  exact m_ri X w hr hlocks dX9_goodAnew_10
def f_X9_isCell (N : Nat) (a1 : Int32) : Option Int32 := ob1 (f_X9_lies N a1 (0 : Int32) (24 : Int32)) (fun r3 => cb r3 (some r3))
set_option maxHeartbeats 4000000 in
set_option maxRecDepth 100000 in
theorem c_X9_isCell (l : Launch) (D : va_G) (cy : Nat → ClassId) (ad : Nat → Nat) (A : Nat → Prop) (Kc : State → Prop) (C0 : Cx ad A Kc) (N : Nat) (z : Nat) (V : Vt) (a1 : Int32) (r : Int32) (h : f_X9_isCell N a1 = some r) : Met l yX9_isCell (mw yX9_isCell cX9_isCell 1 (some .boolean)) { frames := 1, cells := 0, slots := 0, locals := 22 } (PreM D cy ad Kc (SM z) V [.int a1]) (QI D cy ad A r (SM z) V) 0 0 A := by
  refine ct_go C0 (own := RX9) rfl (by decide) rfl ?_
  intro p e s m below meth c ls H locs X hr hlocks hnm hl w
  have hx := X.1.1
  have hb := X.1.2.1
  have hown := X.2.1
  have hts := X.2.2.1
  have hl : lv_has ls 1 [(0, .int a1)] := hl
  rw [f_X9_isCell] at h
  refine lv_iload_n hx hb dX9_isCell_0 rfl (lv_at hl 0 rfl) ?_
  refine lv_iconst (v := 0) hx hb dX9_isCell_1 (by decide) ?_
  refine lv_bipush (v := 24) hx hb dX9_isCell_2 (by decide) ?_
  obtain ⟨r3, q4, h⟩ := ob1i h
  refine m_ci (m_rS (As := [.int a1, .int (0 : Int32), .int (24 : Int32)]) (rest := []) X w hl mi_X9_lies ml_X9_18 (c_X9_lies l D cy ad A Kc C0 N z V a1 (0 : Int32) (24 : Int32) r3 q4) ⟨⟨rfl, rfl, Nat.le_of_ble_eq_true rfl, Nat.le_of_ble_eq_true rfl⟩, Nat.le_of_ble_eq_true rfl, Nat.le_of_ble_eq_true rfl⟩ rfl rfl (Nat.le_of_ble_eq_true rfl) dX9_isCell_4) w (fun H locs w => ?_)
  obtain ⟨g5, h⟩ := cbi h
  obtain rfl := Option.some.inj h
  exact m_rz X w hr (nb01 g5) hlocks dX9_isCell_7
def f_X9_isFive (N : Nat) (a1 : Int32) : Option Int32 := ob1 (f_X9_lies N a1 (0 : Int32) (4 : Int32)) (fun r3 => cb r3 (some r3))
set_option maxHeartbeats 4000000 in
set_option maxRecDepth 100000 in
theorem c_X9_isFive (l : Launch) (D : va_G) (cy : Nat → ClassId) (ad : Nat → Nat) (A : Nat → Prop) (Kc : State → Prop) (C0 : Cx ad A Kc) (N : Nat) (z : Nat) (V : Vt) (a1 : Int32) (r : Int32) (h : f_X9_isFive N a1 = some r) : Met l yX9_isFive (mw yX9_isFive cX9_isFive 1 (some .boolean)) { frames := 1, cells := 0, slots := 0, locals := 22 } (PreM D cy ad Kc (SM z) V [.int a1]) (QI D cy ad A r (SM z) V) 0 0 A := by
  refine ct_go C0 (own := RX9) rfl (by decide) rfl ?_
  intro p e s m below meth c ls H locs X hr hlocks hnm hl w
  have hx := X.1.1
  have hb := X.1.2.1
  have hown := X.2.1
  have hts := X.2.2.1
  have hl : lv_has ls 1 [(0, .int a1)] := hl
  rw [f_X9_isFive] at h
  refine lv_iload_n hx hb dX9_isFive_0 rfl (lv_at hl 0 rfl) ?_
  refine lv_iconst (v := 0) hx hb dX9_isFive_1 (by decide) ?_
  refine lv_iconst (v := 4) hx hb dX9_isFive_2 (by decide) ?_
  obtain ⟨r3, q4, h⟩ := ob1i h
  refine m_ci (m_rS (As := [.int a1, .int (0 : Int32), .int (4 : Int32)]) (rest := []) X w hl mi_X9_lies ml_X9_18 (c_X9_lies l D cy ad A Kc C0 N z V a1 (0 : Int32) (4 : Int32) r3 q4) ⟨⟨rfl, rfl, Nat.le_of_ble_eq_true rfl, Nat.le_of_ble_eq_true rfl⟩, Nat.le_of_ble_eq_true rfl, Nat.le_of_ble_eq_true rfl⟩ rfl rfl (Nat.le_of_ble_eq_true rfl) dX9_isFive_3) w (fun H locs w => ?_)
  obtain ⟨g5, h⟩ := cbi h
  obtain rfl := Option.some.inj h
  exact m_rz X w hr (nb01 g5) hlocks dX9_isFive_6
def f_X9_image_17 (N : Nat) : Nat → Vt → Int32 → Int32 → Option (Int32 × Vt)
  | 0, _, _, _ => none
  | n + 1, V, v1, v2 => if (5715 : Int32) ≤ v2 then ck v1 2 (bd (sA V 4 v1.toNatClampNeg (vp_nar .boolean (1 : Int32))) (fun V20 => ob (f_X9_good N V20 (0 : Int32)) (fun r21 V23 => some (r21, V23)))) else ck v2 5715 (ck (((5715 : Int32) * v1) + v2) 11430 (bd (sA V 3 (((5715 : Int32) * v1) + v2).toNatClampNeg (V.2.1 2 v2.toNatClampNeg)) (fun V26 => bd (v2 + (1 : Int32)) (fun x27 => (f_X9_image_17 N n) V26 v1 x27))))
def f_X9_image (N : Nat) (V : Vt) (a1 : Int32) : Option (Int32 × Vt) := ob1 (f_X9_lies N a1 (0 : Int32) (1 : Int32)) (fun r15 => if r15 = 0 then ob (f_X9_refuses N V (-1 : Int32)) (fun r28 V30 => some (r28, V30)) else f_X9_image_17 N N V a1 (0 : Int32))
set_option maxHeartbeats 4000000 in
set_option maxRecDepth 100000 in
theorem c_X9_image (l : Launch) (D : va_G) (cy : Nat → ClassId) (ad : Nat → Nat) (A : Nat → Prop) (Kc : State → Prop) (C0 : Cx ad A Kc) (N : Nat) (z : Nat) (V : Vt) (a1 : Int32) (r : Int32) (V' : Vt) (h : f_X9_image N V a1 = some (r, V')) : Met l yX9_image (mw yX9_image cX9_image 3 (some .int)) { frames := 1, cells := 0, slots := 0, locals := 22 } (PreM D cy ad Kc (SM z) V [.ref (ad 0), .int a1]) (QI D cy ad A r (SM z) V') 0 0 A := by
  refine ct_go C0 (own := RX9) rfl (by decide) rfl ?_
  intro p e s m below meth c ls H locs X hr hlocks hnm hl w
  have hx := X.1.1
  have hb := X.1.2.1
  have hown := X.2.1
  have hts := X.2.2.1
  have hl : lv_has ls 3 [(0, .ref (ad 0)), (1, .int a1)] := hl
  obtain ⟨G, hG⟩ : ∃ G : Nat → Vt → List (Nat × Value) → List Value → Prop, G = fun pc V lv st => ∀ (H : Heap) (locs : List Loc) (ls : Array Slot), Wd D cy ad A s.heap (SM z) V H locs → lv_has ls 3 lv → W p l e { frames := 1, cells := 0, slots := 0, locals := 22 } s m ([.ref (ad 0), .int a1] : List Value).toArray below meth c H locs 0 0 (MQ below (QI D cy ad A r (SM z) V') ([.ref (ad 0), .int a1] : List Value).toArray s 0 0 A) (F0 m pc ls st) := ⟨_, rfl⟩
  have L17 : ∀ (n17 : Nat) (V : Vt) (v1 : Int32) (v2 : Int32), f_X9_image_17 N n17 V v1 v2 = some (r, V') → G 17 V [(0, .ref (ad 0)), (1, .int v1), (2, .int v2)] [] := by
    intro n17
    induction n17 with
    | zero => intro V v1 v2 h; rw [f_X9_image_17] at h; cases h
    | succ n17 ih17 =>
      intro V v1 v2 h
      rw [hG]
      intro H locs ls w hl
      rw [f_X9_image_17] at h
      refine lv_iload_n hx hb dX9_image_17 rfl (lv_at hl 2 rfl) ?_
      refine lv_sipush (v := 5715) hx hb dX9_image_18 (by decide) ?_
      refine lv_icmp_ge (tgt := 48) hx hb dX9_image_21 (by decide) (fun c18 => ?_) (fun c18 => ?_)
      · replace h := ifT h c18
        refine lv_aload_n hx hb dX9_image_48 rfl (lv_at hl 0 rfl) ?_
        refine m_get X w 0 sm_n0 sm_k0 ci9 4 (by decide) (fvR sm_k0 rfl sm_p4) rfl fl_X9_34 dX9_image_49 ?_
        refine lv_iload_n hx hb dX9_image_52 rfl (lv_at hl 1 rfl) ?_
        refine lv_iconst (v := 1) hx hb dX9_image_53 (by decide) ?_
        obtain ⟨g19, h⟩ := cki h
        refine m_zast X w 4 sm_n4 sm_k4 sm_z4 g19 dX9_image_54 (fun V20 H locs eV20 w => ?_)
        replace h := bdi h _ eV20
        refine lv_aload_n hx hb dX9_image_55 rfl (lv_at hl 0 rfl) ?_
        refine lv_iconst (v := 0) hx hb dX9_image_56 (by decide) ?_
        obtain ⟨r21, V23, q22, h⟩ := obi h
        refine m_ci (m_rV (As := [.int (0 : Int32)]) (rest := []) X w hl mi_X9_good ml_X9_14 0 sm_n0 sm_k0 rfl (c_X9_good l D cy ad A Kc C0 N z V20 (0 : Int32) r21 V23 q22) ⟨⟨rfl, rfl, Nat.le_of_ble_eq_true rfl, Nat.le_of_ble_eq_true rfl⟩, Nat.le_of_ble_eq_true rfl, Nat.le_of_ble_eq_true rfl⟩ rfl rfl (Nat.le_of_ble_eq_true rfl) dX9_image_57) w (fun H locs w => ?_)
        obtain ⟨rfl, rfl⟩ := reti h
        exact m_ri X w hr hlocks dX9_image_60
      · replace h := ifF h c18
        refine lv_aload_n hx hb dX9_image_24 rfl (lv_at hl 0 rfl) ?_
        refine m_get X w 0 sm_n0 sm_k0 ci9 3 (by decide) (fvR sm_k0 rfl sm_p3) rfl fl_X9_31 dX9_image_25 ?_
        refine lv_sipush (v := 5715) hx hb dX9_image_28 (by decide) ?_
        refine lv_iload_n hx hb dX9_image_31 rfl (lv_at hl 1 rfl) ?_
        refine lv_imul hx hb dX9_image_32 ?_
        refine lv_iload_n hx hb dX9_image_33 rfl (lv_at hl 2 rfl) ?_
        refine lv_iadd hx hb dX9_image_34 ?_
        refine lv_aload_n hx hb dX9_image_35 rfl (lv_at hl 0 rfl) ?_
        refine m_get X w 0 sm_n0 sm_k0 ci9 2 (by decide) (fvR sm_k0 rfl sm_p2) rfl fl_X9_28 dX9_image_36 ?_
        refine lv_iload_n hx hb dX9_image_39 rfl (lv_at hl 2 rfl) ?_
        obtain ⟨g24, h⟩ := cki h
        refine m_iald X w 2 sm_n2 sm_k2 sm_z2 g24 dX9_image_40 ?_
        obtain ⟨g25, h⟩ := cki h
        refine m_iast X w 3 sm_n3 sm_k3 sm_z3 g25 dX9_image_41 (fun V26 H locs eV26 w => ?_)
        replace h := bdi h _ eV26
        obtain ⟨x27, ex27⟩ : ∃ y : Int32, y = v2 + (1 : Int32) := ⟨_, rfl⟩
        replace h := bdi h _ ex27
        refine lv_iinc (v := x27) (lv' := [(2, .int x27), (0, .ref (ad 0)), (1, .int v1)]) hx hb dX9_image_42 hl (k := 2) rfl (by rw [ex27]; rfl) (by decide) rfl (fun ls hl => ?_)
        refine lv_goto (tgt := 17) hx hb dX9_image_45 (by decide) ?_
        have g := ih17 V26 v1 x27 h
        rw [hG] at g
        exact g H locs ls w (lv_sub hl [1, 2, 0] rfl)
  rw [f_X9_image] at h
  refine lv_iload_n hx hb dX9_image_0 rfl (lv_at hl 1 rfl) ?_
  refine lv_iconst (v := 0) hx hb dX9_image_1 (by decide) ?_
  refine lv_iconst (v := 1) hx hb dX9_image_2 (by decide) ?_
  obtain ⟨r15, q16, h⟩ := ob1i h
  refine m_ci (m_rS (As := [.int a1, .int (0 : Int32), .int (1 : Int32)]) (rest := []) X w hl mi_X9_lies ml_X9_18 (c_X9_lies l D cy ad A Kc C0 N z V a1 (0 : Int32) (1 : Int32) r15 q16) ⟨⟨rfl, rfl, Nat.le_of_ble_eq_true rfl, Nat.le_of_ble_eq_true rfl⟩, Nat.le_of_ble_eq_true rfl, Nat.le_of_ble_eq_true rfl⟩ rfl rfl (Nat.le_of_ble_eq_true rfl) dX9_image_3) w (fun H locs w => ?_)
  refine lv_if_ne (tgt := 15) hx hb dX9_image_6 (by decide) (fun c17 => ?_) (fun c17 => ?_)
  · replace h := ifF h c17
    refine lv_iconst (v := 0) hx hb dX9_image_15 (by decide) ?_
    refine lv_istore_n (lv' := [(2, .int (0 : Int32)), (0, .ref (ad 0)), (1, .int a1)]) hx hb dX9_image_16 rfl hl (by decide) rfl (fun ls hl => ?_)
    have g := L17 N V a1 (0 : Int32) h
    rw [hG] at g
    exact g H locs ls w (lv_sub hl [1, 2, 0] rfl)
  · replace h := ifT h c17
    refine lv_aload_n hx hb dX9_image_9 rfl (lv_at hl 0 rfl) ?_
    refine lv_iconst (v := (-1)) hx hb dX9_image_10 (by decide) ?_
    obtain ⟨r28, V30, q29, h⟩ := obi h
    refine m_ci (m_rV (As := [.int (-1 : Int32)]) (rest := []) X w hl mi_X9_refuses ml_X9_109 0 sm_n0 sm_k0 rfl (c_X9_refuses l D cy ad A Kc C0 N z V (-1 : Int32) r28 V30 q29) ⟨⟨rfl, rfl, Nat.le_of_ble_eq_true rfl, Nat.le_of_ble_eq_true rfl⟩, Nat.le_of_ble_eq_true rfl, Nat.le_of_ble_eq_true rfl⟩ rfl rfl (Nat.le_of_ble_eq_true rfl) dX9_image_11) w (fun H locs w => ?_)
    obtain ⟨rfl, rfl⟩ := reti h
    exact m_ri X w hr hlocks dX9_image_14
def f_X9_isClerk (N : Nat) (V : Vt) (a1 : Int32) : Option Int32 := ck (103 : Int32) 5715 (ob1 (f_X9_lies N a1 (0 : Int32) ((V.2.1 2 (103 : Int32).toNatClampNeg) - (1 : Int32))) (fun r5 => cb r5 (some r5)))
set_option maxHeartbeats 4000000 in
set_option maxRecDepth 100000 in
theorem c_X9_isClerk (l : Launch) (D : va_G) (cy : Nat → ClassId) (ad : Nat → Nat) (A : Nat → Prop) (Kc : State → Prop) (C0 : Cx ad A Kc) (N : Nat) (z : Nat) (V : Vt) (a1 : Int32) (r : Int32) (h : f_X9_isClerk N V a1 = some r) : Met l yX9_isClerk (mw yX9_isClerk cX9_isClerk 2 (some .boolean)) { frames := 1, cells := 0, slots := 0, locals := 22 } (PreM D cy ad Kc (SM z) V [.ref (ad 0), .int a1]) (QI D cy ad A r (SM z) V) 0 0 A := by
  refine ct_go C0 (own := RX9) rfl (by decide) rfl ?_
  intro p e s m below meth c ls H locs X hr hlocks hnm hl w
  have hx := X.1.1
  have hb := X.1.2.1
  have hown := X.2.1
  have hts := X.2.2.1
  have hl : lv_has ls 2 [(0, .ref (ad 0)), (1, .int a1)] := hl
  rw [f_X9_isClerk] at h
  refine lv_iload_n hx hb dX9_isClerk_0 rfl (lv_at hl 1 rfl) ?_
  refine lv_iconst (v := 0) hx hb dX9_isClerk_1 (by decide) ?_
  refine lv_aload_n hx hb dX9_isClerk_2 rfl (lv_at hl 0 rfl) ?_
  refine m_get X w 0 sm_n0 sm_k0 ci9 2 (by decide) (fvR sm_k0 rfl sm_p2) rfl fl_X9_28 dX9_isClerk_3 ?_
  refine lv_bipush (v := 103) hx hb dX9_isClerk_6 (by decide) ?_
  obtain ⟨g4, h⟩ := cki h
  refine m_iald X w 2 sm_n2 sm_k2 sm_z2 g4 dX9_isClerk_8 ?_
  refine lv_iconst (v := 1) hx hb dX9_isClerk_9 (by decide) ?_
  refine lv_isub hx hb dX9_isClerk_10 ?_
  obtain ⟨r5, q6, h⟩ := ob1i h
  refine m_ci (m_rS (As := [.int a1, .int (0 : Int32), .int ((V.2.1 2 (103 : Int32).toNatClampNeg) - (1 : Int32))]) (rest := []) X w hl mi_X9_lies ml_X9_18 (c_X9_lies l D cy ad A Kc C0 N z V a1 (0 : Int32) ((V.2.1 2 (103 : Int32).toNatClampNeg) - (1 : Int32)) r5 q6) ⟨⟨rfl, rfl, Nat.le_of_ble_eq_true rfl, Nat.le_of_ble_eq_true rfl⟩, Nat.le_of_ble_eq_true rfl, Nat.le_of_ble_eq_true rfl⟩ rfl rfl (Nat.le_of_ble_eq_true rfl) dX9_isClerk_11) w (fun H locs w => ?_)
  obtain ⟨g7, h⟩ := cbi h
  obtain rfl := Option.some.inj h
  exact m_rz X w hr (nb01 g7) hlocks dX9_isClerk_14
def f_X9_isTerm (N : Nat) (a1 : Int32) (a2 : Int32) : Option Int32 := if a1 = (0 : Int32) then ob1 (f_X9_lies N a2 (0 : Int32) (999 : Int32)) (fun r8 => cb r8 (some r8)) else if a1 = (1 : Int32) then ob1 (f_X9_lies N a2 (0 : Int32) (10 : Int32)) (fun r12 => cb r12 (some r12)) else if a1 = (2 : Int32) then ob1 (f_X9_lies N a2 (0 : Int32) (9 : Int32)) (fun r16 => cb r16 (some r16)) else some (0 : Int32)
set_option maxHeartbeats 4000000 in
set_option maxRecDepth 100000 in
theorem c_X9_isTerm (l : Launch) (D : va_G) (cy : Nat → ClassId) (ad : Nat → Nat) (A : Nat → Prop) (Kc : State → Prop) (C0 : Cx ad A Kc) (N : Nat) (z : Nat) (V : Vt) (a1 : Int32) (a2 : Int32) (r : Int32) (h : f_X9_isTerm N a1 a2 = some r) : Met l yX9_isTerm (mw yX9_isTerm cX9_isTerm 2 (some .boolean)) { frames := 1, cells := 0, slots := 0, locals := 22 } (PreM D cy ad Kc (SM z) V [.int a1, .int a2]) (QI D cy ad A r (SM z) V) 0 0 A := by
  refine ct_go C0 (own := RX9) rfl (by decide) rfl ?_
  intro p e s m below meth c ls H locs X hr hlocks hnm hl w
  have hx := X.1.1
  have hb := X.1.2.1
  have hown := X.2.1
  have hts := X.2.2.1
  have hl : lv_has ls 2 [(0, .int a1), (1, .int a2)] := hl
  rw [f_X9_isTerm] at h
  refine lv_iload_n hx hb dX9_isTerm_0 rfl (lv_at hl 0 rfl) ?_
  rcases Decidable.em (a1 = (0 : Int32)) with c7 | c7
  · replace h := ifT h c7
    refine lv_tableIn (tgt := 28) hx hb dX9_isTerm_1 (by rw [c7]; decide) (by rw [c7]; decide) (by rw [c7]; rfl) (by decide) ?_
    refine lv_iload_n hx hb dX9_isTerm_28 rfl (lv_at hl 1 rfl) ?_
    refine lv_iconst (v := 0) hx hb dX9_isTerm_29 (by decide) ?_
    refine lv_sipush (v := 999) hx hb dX9_isTerm_30 (by decide) ?_
    obtain ⟨r8, q9, h⟩ := ob1i h
    refine m_ci (m_rS (As := [.int a2, .int (0 : Int32), .int (999 : Int32)]) (rest := []) X w hl mi_X9_lies ml_X9_18 (c_X9_lies l D cy ad A Kc C0 N z V a2 (0 : Int32) (999 : Int32) r8 q9) ⟨⟨rfl, rfl, Nat.le_of_ble_eq_true rfl, Nat.le_of_ble_eq_true rfl⟩, Nat.le_of_ble_eq_true rfl, Nat.le_of_ble_eq_true rfl⟩ rfl rfl (Nat.le_of_ble_eq_true rfl) dX9_isTerm_33) w (fun H locs w => ?_)
    obtain ⟨g10, h⟩ := cbi h
    obtain rfl := Option.some.inj h
    exact m_rz X w hr (nb01 g10) hlocks dX9_isTerm_36
  · replace h := ifF h c7
    rcases Decidable.em (a1 = (1 : Int32)) with c11 | c11
    · replace h := ifT h c11
      refine lv_tableIn (tgt := 37) hx hb dX9_isTerm_1 (by rw [c11]; decide) (by rw [c11]; decide) (by rw [c11]; rfl) (by decide) ?_
      refine lv_iload_n hx hb dX9_isTerm_37 rfl (lv_at hl 1 rfl) ?_
      refine lv_iconst (v := 0) hx hb dX9_isTerm_38 (by decide) ?_
      refine lv_bipush (v := 10) hx hb dX9_isTerm_39 (by decide) ?_
      obtain ⟨r12, q13, h⟩ := ob1i h
      refine m_ci (m_rS (As := [.int a2, .int (0 : Int32), .int (10 : Int32)]) (rest := []) X w hl mi_X9_lies ml_X9_18 (c_X9_lies l D cy ad A Kc C0 N z V a2 (0 : Int32) (10 : Int32) r12 q13) ⟨⟨rfl, rfl, Nat.le_of_ble_eq_true rfl, Nat.le_of_ble_eq_true rfl⟩, Nat.le_of_ble_eq_true rfl, Nat.le_of_ble_eq_true rfl⟩ rfl rfl (Nat.le_of_ble_eq_true rfl) dX9_isTerm_41) w (fun H locs w => ?_)
      obtain ⟨g14, h⟩ := cbi h
      obtain rfl := Option.some.inj h
      exact m_rz X w hr (nb01 g14) hlocks dX9_isTerm_44
    · replace h := ifF h c11
      rcases Decidable.em (a1 = (2 : Int32)) with c15 | c15
      · replace h := ifT h c15
        refine lv_tableIn (tgt := 45) hx hb dX9_isTerm_1 (by rw [c15]; decide) (by rw [c15]; decide) (by rw [c15]; rfl) (by decide) ?_
        refine lv_iload_n hx hb dX9_isTerm_45 rfl (lv_at hl 1 rfl) ?_
        refine lv_iconst (v := 0) hx hb dX9_isTerm_46 (by decide) ?_
        refine lv_bipush (v := 9) hx hb dX9_isTerm_47 (by decide) ?_
        obtain ⟨r16, q17, h⟩ := ob1i h
        refine m_ci (m_rS (As := [.int a2, .int (0 : Int32), .int (9 : Int32)]) (rest := []) X w hl mi_X9_lies ml_X9_18 (c_X9_lies l D cy ad A Kc C0 N z V a2 (0 : Int32) (9 : Int32) r16 q17) ⟨⟨rfl, rfl, Nat.le_of_ble_eq_true rfl, Nat.le_of_ble_eq_true rfl⟩, Nat.le_of_ble_eq_true rfl, Nat.le_of_ble_eq_true rfl⟩ rfl rfl (Nat.le_of_ble_eq_true rfl) dX9_isTerm_49) w (fun H locs w => ?_)
        obtain ⟨g18, h⟩ := cbi h
        obtain rfl := Option.some.inj h
        exact m_rz X w hr (nb01 g18) hlocks dX9_isTerm_52
      · replace h := ifF h c15
        refine lv_tableOut (tgt := 53) hx hb dX9_isTerm_1 (sw_out [(0 : Int32), (1 : Int32), (2 : Int32)] (by decide) (by intro q hq; simp only [List.mem_cons, List.not_mem_nil, or_false] at hq; rcases hq with rfl | rfl | rfl <;> assumption)) (by decide) ?_
        refine lv_iconst (v := 0) hx hb dX9_isTerm_53 (by decide) ?_
        obtain rfl := Option.some.inj h
        exact m_rz X w hr rfl hlocks dX9_isTerm_54
def f_X9_end (N : Nat) (V : Vt) (a1 : Int32) : Option (Int32 × Vt) := ob1 (f_X9_lies N a1 (0 : Int32) (V.1 0 13)) (fun r4 => if r4 = 0 then some ((-1 : Int32), V) else bd (sF V 0 13 a1) (fun V7 => some (a1, V7)))
set_option maxHeartbeats 4000000 in
set_option maxRecDepth 100000 in
theorem c_X9_end (l : Launch) (D : va_G) (cy : Nat → ClassId) (ad : Nat → Nat) (A : Nat → Prop) (Kc : State → Prop) (C0 : Cx ad A Kc) (N : Nat) (z : Nat) (V : Vt) (a1 : Int32) (r : Int32) (V' : Vt) (h : f_X9_end N V a1 = some (r, V')) : Met l yX9_end (mw yX9_end cX9_end 2 (some .int)) { frames := 1, cells := 0, slots := 0, locals := 22 } (PreM D cy ad Kc (SM z) V [.ref (ad 0), .int a1]) (QI D cy ad A r (SM z) V') 0 0 A := by
  refine ct_go C0 (own := RX9) rfl (by decide) rfl ?_
  intro p e s m below meth c ls H locs X hr hlocks hnm hl w
  have hx := X.1.1
  have hb := X.1.2.1
  have hown := X.2.1
  have hts := X.2.2.1
  have hl : lv_has ls 2 [(0, .ref (ad 0)), (1, .int a1)] := hl
  rw [f_X9_end] at h
  refine lv_iload_n hx hb dX9_end_0 rfl (lv_at hl 1 rfl) ?_
  refine lv_iconst (v := 0) hx hb dX9_end_1 (by decide) ?_
  refine lv_aload_n hx hb dX9_end_2 rfl (lv_at hl 0 rfl) ?_
  refine m_get X w 0 sm_n0 sm_k0 ci9 13 (by decide) (fvI sm_k0 rfl) rfl fl_X9_152 dX9_end_3 ?_
  obtain ⟨r4, q5, h⟩ := ob1i h
  refine m_ci (m_rS (As := [.int a1, .int (0 : Int32), .int (V.1 0 13)]) (rest := []) X w hl mi_X9_lies ml_X9_18 (c_X9_lies l D cy ad A Kc C0 N z V a1 (0 : Int32) (V.1 0 13) r4 q5) ⟨⟨rfl, rfl, Nat.le_of_ble_eq_true rfl, Nat.le_of_ble_eq_true rfl⟩, Nat.le_of_ble_eq_true rfl, Nat.le_of_ble_eq_true rfl⟩ rfl rfl (Nat.le_of_ble_eq_true rfl) dX9_end_6) w (fun H locs w => ?_)
  refine lv_if_ne (tgt := 14) hx hb dX9_end_9 (by decide) (fun c6 => ?_) (fun c6 => ?_)
  · replace h := ifF h c6
    refine lv_aload_n hx hb dX9_end_14 rfl (lv_at hl 0 rfl) ?_
    refine lv_iload_n hx hb dX9_end_15 rfl (lv_at hl 1 rfl) ?_
    refine m_put X w 0 sm_n0 sm_k0 ci9 13 (by decide) rfl rfl rfl rfl rfl fl_X9_152 dX9_end_16 (fun V7 H locs eV7 w => ?_)
    replace h := bdi h _ eV7
    refine lv_iload_n hx hb dX9_end_19 rfl (lv_at hl 1 rfl) ?_
    obtain ⟨rfl, rfl⟩ := reti h
    exact m_ri X w hr hlocks dX9_end_20
  · replace h := ifT h c6
    refine lv_iconst (v := (-1)) hx hb dX9_end_12 (by decide) ?_
    obtain ⟨rfl, rfl⟩ := reti h
    exact m_ri X w hr hlocks dX9_end_13
def f_X9_splits_247 (N : Nat) (K7 : Vt → Int32 → Int32 → Option Vt) (V : Vt) (v1 : Int32) (v4 : Int32) : Option Vt := bd (sF V 0 18 ((V.1 0 18) + (1 : Int32))) (fun V77 => K7 V77 v1 v4)
def f_X9_splits_240 (N : Nat) (K169 : Vt → Int32 → Int32 → Int32 → Int32 → Option Vt) (V : Vt) (v1 : Int32) (v3 : Int32) (v4 : Int32) (v5 : Int32) (s0 : Int32) (s1 : Int32) : Option Vt := ck s1 401 (bd (sA V 10 s1.toNatClampNeg s0) (fun V86 => bd (v5 + (1 : Int32)) (fun x87 => K169 V86 v1 v3 v4 x87)))
def f_X9_splits_169 (N : Nat) (K7 : Vt → Int32 → Int32 → Option Vt) : Nat → Vt → Int32 → Int32 → Int32 → Int32 → Option Vt
  | 0, _, _, _, _, _ => none
  | n + 1, V, v1, v3, v4, v5 => if v4 ≤ v5 then f_X9_splits_247 N K7 V v1 v4 else ob1 (f_X9_isDigit N v3) (fun r78 => if r78 = 0 then f_X9_splits_247 N K7 V v1 v4 else ck (V.1 0 18) 401 (if (V.2.1 10 (V.1 0 18).toNatClampNeg) ≤ (1000000 : Int32) then ck (V.1 0 18) 401 (ck v5 400 (f_X9_splits_240 N (f_X9_splits_169 N K7 n) V v1 v3 v4 v5 ((((10 : Int32) * (V.2.1 10 (V.1 0 18).toNatClampNeg)) + (V.2.1 7 v5.toNatClampNeg)) - (48 : Int32)) (V.1 0 18))) else ck (V.1 0 18) 401 (f_X9_splits_240 N (f_X9_splits_169 N K7 n) V v1 v3 v4 v5 (V.2.1 10 (V.1 0 18).toNatClampNeg) (V.1 0 18))))
def f_X9_splits_165 (N : Nat) (K7 : Vt → Int32 → Int32 → Option Vt) (V : Vt) (v1 : Int32) (v2 : Int32) (v3 : Int32) (v4 : Int32) (s0 : Int32) (s1 : Int32) : Option Vt := ck s1 401 (bd (sA V 9 s1.toNatClampNeg s0) (fun V75 => f_X9_splits_169 N K7 N V75 v1 v3 v4 v2))
def f_X9_splits_100 (N : Nat) (K7 : Vt → Int32 → Int32 → Option Vt) (V : Vt) (v1 : Int32) (v2 : Int32) (v3 : Int32) (v4 : Int32) : Option Vt := ck (V.1 0 18) 401 (bd (sA V 11 (V.1 0 18).toNatClampNeg v2) (fun V65 => ck (V65.1 0 18) 401 (bd (sA V65 10 (V65.1 0 18).toNatClampNeg (0 : Int32)) (fun V67 => ob1 (f_X9_isSmall N v3) (fun r68 => if r68 = 0 then ob1 (f_X9_isDigit N v3) (fun r71 => if r71 = 0 then f_X9_splits_165 N K7 V67 v1 v2 v3 v4 ((100 : Int32) + (v3 &&& (255 : Int32))) (V67.1 0 18) else f_X9_splits_165 N K7 V67 v1 v2 v3 v4 (50 : Int32) (V67.1 0 18)) else ob1 (f_X9_wordOf N V67 v2 v4) (fun r89 => f_X9_splits_165 N K7 V67 v1 v2 v3 v4 r89 (V67.1 0 18)))))))
def f_X9_splits_75 (N : Nat) (K7 : Vt → Int32 → Int32 → Option Vt) : Nat → Vt → Int32 → Int32 → Int32 → Int32 → Option Vt
  | 0, _, _, _, _, _ => none
  | n + 1, V, v1, v2, v3, v4 => if v1 ≤ v4 then f_X9_splits_100 N K7 V v1 v2 v3 v4 else ck v4 400 (ob1 (f_X9_isDigit N (V.2.1 7 v4.toNatClampNeg)) (fun r93 => if r93 = 0 then f_X9_splits_100 N K7 V v1 v2 v3 v4 else bd (v4 + (1 : Int32)) (fun x96 => (f_X9_splits_75 N K7 n) V v1 v2 v3 x96)))
def f_X9_splits_68 (N : Nat) (K7 : Vt → Int32 → Int32 → Option Vt) (V : Vt) (v1 : Int32) (v2 : Int32) (v3 : Int32) (v4 : Int32) : Option Vt := ob1 (f_X9_isDigit N v3) (fun r61 => if r61 = 0 then f_X9_splits_100 N K7 V v1 v2 v3 v4 else f_X9_splits_75 N K7 N V v1 v2 v3 v4)
def f_X9_splits_43 (N : Nat) (K7 : Vt → Int32 → Int32 → Option Vt) : Nat → Vt → Int32 → Int32 → Int32 → Int32 → Option Vt
  | 0, _, _, _, _, _ => none
  | n + 1, V, v1, v2, v3, v4 => if v1 ≤ v4 then f_X9_splits_68 N K7 V v1 v2 v3 v4 else ck v4 400 (ob1 (f_X9_isSmall N (V.2.1 7 v4.toNatClampNeg)) (fun r99 => if r99 = 0 then f_X9_splits_68 N K7 V v1 v2 v3 v4 else bd (v4 + (1 : Int32)) (fun x102 => (f_X9_splits_43 N K7 n) V v1 v2 v3 x102)))
def f_X9_splits_7 (N : Nat) : Nat → Vt → Int32 → Int32 → Option Vt
  | 0, _, _, _ => none
  | n + 1, V, v1, v2 => if v1 ≤ v2 then ck (V.1 0 18) 401 (bd (sA V 11 (V.1 0 18).toNatClampNeg v1) (fun V49 => ck (V49.1 0 18) 401 (bd (sA V49 9 (V49.1 0 18).toNatClampNeg (0 : Int32)) (fun V51 => ck (V51.1 0 18) 401 (bd (sA V51 10 (V51.1 0 18).toNatClampNeg (0 : Int32)) (fun V53 => some V53)))))) else ck v2 400 (bd (V.2.1 7 v2.toNatClampNeg) (fun x55 => if x55 = (32 : Int32) then bd (v2 + (1 : Int32)) (fun x103 => (f_X9_splits_7 N n) V v1 x103) else bd (v2 + (1 : Int32)) (fun x57 => ob1 (f_X9_isSmall N x55) (fun r58 => if r58 = 0 then f_X9_splits_68 N (f_X9_splits_7 N n) V v1 v2 x55 x57 else f_X9_splits_43 N (f_X9_splits_7 N n) N V v1 v2 x55 x57))))
def f_X9_splits (N : Nat) (V : Vt) (a1 : Int32) : Option Vt := bd (sF V 0 18 (0 : Int32)) (fun V46 => f_X9_splits_7 N N V46 a1 (0 : Int32))
set_option maxHeartbeats 4000000 in
set_option maxRecDepth 100000 in
theorem c_X9_splits (l : Launch) (D : va_G) (cy : Nat → ClassId) (ad : Nat → Nat) (A : Nat → Prop) (Kc : State → Prop) (C0 : Cx ad A Kc) (N : Nat) (z : Nat) (V : Vt) (a1 : Int32) (V' : Vt) (h : f_X9_splits N V a1 = some V') : Met l yX9_splits (mw yX9_splits cX9_splits 6 none) { frames := 1, cells := 0, slots := 0, locals := 27 } (PreM D cy ad Kc (SM z) V [.ref (ad 0), .int a1]) (QV D cy ad A (SM z) V') 0 0 A := by
  refine ct_go C0 (own := RX9) rfl (by decide) rfl ?_
  intro p e s m below meth c ls H locs X hr hlocks hnm hl w
  have hx := X.1.1
  have hb := X.1.2.1
  have hown := X.2.1
  have hts := X.2.2.1
  have hl : lv_has ls 6 [(0, .ref (ad 0)), (1, .int a1)] := hl
  obtain ⟨G, hG⟩ : ∃ G : Nat → Vt → List (Nat × Value) → List Value → Prop, G = fun pc V lv st => ∀ (H : Heap) (locs : List Loc) (ls : Array Slot), Wd D cy ad A s.heap (SM z) V H locs → lv_has ls 6 lv → W p l e { frames := 1, cells := 0, slots := 0, locals := 27 } s m ([.ref (ad 0), .int a1] : List Value).toArray below meth c H locs 0 0 (MQ below (QV D cy ad A (SM z) V') ([.ref (ad 0), .int a1] : List Value).toArray s 0 0 A) (F0 m pc ls st) := ⟨_, rfl⟩
  have L7 : ∀ (n7 : Nat) (V : Vt) (v1 : Int32) (v2 : Int32), f_X9_splits_7 N n7 V v1 v2 = some V' → G 7 V [(0, .ref (ad 0)), (1, .int v1), (2, .int v2)] [] := by
    intro n7
    induction n7 with
    | zero => intro V v1 v2 h; rw [f_X9_splits_7] at h; cases h
    | succ n7 ih7 =>
      have B247 : ∀ (V : Vt) (v1 : Int32) (v4 : Int32), f_X9_splits_247 N (f_X9_splits_7 N n7) V v1 v4 = some V' → G 247 V [(0, .ref (ad 0)), (1, .int v1), (4, .int v4)] [] := by
        intro V v1 v4 h
        rw [hG]
        intro H locs ls w hl
        rw [f_X9_splits_247] at h
        refine lv_aload_n hx hb dX9_splits_247 rfl (lv_at hl 0 rfl) ?_
        refine lv_dup hx hb dX9_splits_248 rfl ?_
        refine m_get X w 0 sm_n0 sm_k0 ci9 18 (by decide) (fvI sm_k0 rfl) rfl fl_X9_158 dX9_splits_249 ?_
        refine lv_iconst (v := 1) hx hb dX9_splits_252 (by decide) ?_
        refine lv_iadd hx hb dX9_splits_253 ?_
        refine m_put X w 0 sm_n0 sm_k0 ci9 18 (by decide) rfl rfl rfl rfl rfl fl_X9_158 dX9_splits_254 (fun V77 H locs eV77 w => ?_)
        replace h := bdi h _ eV77
        refine lv_iload hx hb dX9_splits_257 (lv_at hl 2 rfl) ?_
        refine lv_istore_n (lv' := [(2, .int v4), (0, .ref (ad 0)), (1, .int v1), (4, .int v4)]) hx hb dX9_splits_259 rfl hl (by decide) rfl (fun ls hl => ?_)
        refine lv_goto (tgt := 7) hx hb dX9_splits_260 (by decide) ?_
        have g := ih7 V77 v1 v4 h
        rw [hG] at g
        exact g H locs ls w (lv_sub hl [1, 2, 0] rfl)
      have L169 : ∀ (n169 : Nat) (V : Vt) (v1 : Int32) (v3 : Int32) (v4 : Int32) (v5 : Int32), f_X9_splits_169 N (f_X9_splits_7 N n7) n169 V v1 v3 v4 v5 = some V' → G 169 V [(0, .ref (ad 0)), (1, .int v1), (3, .int v3), (4, .int v4), (5, .int v5)] [] := by
        intro n169
        induction n169 with
        | zero => intro V v1 v3 v4 v5 h; rw [f_X9_splits_169] at h; cases h
        | succ n169 ih169 =>
          have B240 : ∀ (V : Vt) (v1 : Int32) (v3 : Int32) (v4 : Int32) (v5 : Int32) (s0 : Int32) (s1 : Int32), f_X9_splits_240 N (f_X9_splits_169 N (f_X9_splits_7 N n7) n169) V v1 v3 v4 v5 s0 s1 = some V' → G 240 V [(0, .ref (ad 0)), (1, .int v1), (3, .int v3), (4, .int v4), (5, .int v5)] [.int s0, .int s1, .ref (ad 10)] := by
            intro V v1 v3 v4 v5 s0 s1 h
            rw [hG]
            intro H locs ls w hl
            rw [f_X9_splits_240] at h
            obtain ⟨g85, h⟩ := cki h
            refine m_iast X w 10 sm_n10 sm_k10 sm_z10 g85 dX9_splits_240 (fun V86 H locs eV86 w => ?_)
            replace h := bdi h _ eV86
            obtain ⟨x87, ex87⟩ : ∃ y : Int32, y = v5 + (1 : Int32) := ⟨_, rfl⟩
            replace h := bdi h _ ex87
            refine lv_iinc (v := x87) (lv' := [(5, .int x87), (0, .ref (ad 0)), (1, .int v1), (3, .int v3), (4, .int v4)]) hx hb dX9_splits_241 hl (k := 4) rfl (by rw [ex87]; rfl) (by decide) rfl (fun ls hl => ?_)
            refine lv_goto (tgt := 169) hx hb dX9_splits_244 (by decide) ?_
            have g := ih169 V86 v1 v3 v4 x87 h
            rw [hG] at g
            exact g H locs ls w (lv_sub hl [1, 2, 3, 4, 0] rfl)
          intro V v1 v3 v4 v5 h
          rw [hG]
          intro H locs ls w hl
          rw [f_X9_splits_169] at h
          refine lv_iload hx hb dX9_splits_169 (lv_at hl 4 rfl) ?_
          refine lv_iload hx hb dX9_splits_171 (lv_at hl 3 rfl) ?_
          refine lv_icmp_ge (tgt := 247) hx hb dX9_splits_173 (by decide) (fun c76 => ?_) (fun c76 => ?_)
          · replace h := ifT h c76
            have g := B247 V v1 v4 h
            rw [hG] at g
            exact g H locs ls w (lv_sub hl [0, 1, 3] rfl)
          · replace h := ifF h c76
            refine lv_iload_n hx hb dX9_splits_176 rfl (lv_at hl 2 rfl) ?_
            obtain ⟨r78, q79, h⟩ := ob1i h
            refine m_ci (m_rS (As := [.int v3]) (rest := []) X w hl mi_X9_isDigit ml_X9_164 (c_X9_isDigit l D cy ad A Kc C0 N z V v3 r78 q79) ⟨⟨rfl, rfl, Nat.le_of_ble_eq_true rfl, Nat.le_of_ble_eq_true rfl⟩, Nat.le_of_ble_eq_true rfl, Nat.le_of_ble_eq_true rfl⟩ rfl rfl (Nat.le_of_ble_eq_true rfl) dX9_splits_177) w (fun H locs w => ?_)
            refine lv_if_eq (tgt := 247) hx hb dX9_splits_180 (by decide) (fun c80 => ?_) (fun c80 => ?_)
            · replace h := ifT h c80
              have g := B247 V v1 v4 h
              rw [hG] at g
              exact g H locs ls w (lv_sub hl [0, 1, 3] rfl)
            · replace h := ifF h c80
              refine lv_aload_n hx hb dX9_splits_183 rfl (lv_at hl 0 rfl) ?_
              refine m_get X w 0 sm_n0 sm_k0 ci9 16 (by decide) (fvR sm_k0 rfl sm_p16) rfl fl_X9_57 dX9_splits_184 ?_
              refine lv_aload_n hx hb dX9_splits_187 rfl (lv_at hl 0 rfl) ?_
              refine m_get X w 0 sm_n0 sm_k0 ci9 18 (by decide) (fvI sm_k0 rfl) rfl fl_X9_158 dX9_splits_188 ?_
              refine lv_aload_n hx hb dX9_splits_191 rfl (lv_at hl 0 rfl) ?_
              refine m_get X w 0 sm_n0 sm_k0 ci9 16 (by decide) (fvR sm_k0 rfl sm_p16) rfl fl_X9_57 dX9_splits_192 ?_
              refine lv_aload_n hx hb dX9_splits_195 rfl (lv_at hl 0 rfl) ?_
              refine m_get X w 0 sm_n0 sm_k0 ci9 18 (by decide) (fvI sm_k0 rfl) rfl fl_X9_158 dX9_splits_196 ?_
              obtain ⟨g81, h⟩ := cki h
              refine m_iald X w 10 sm_n10 sm_k10 sm_z10 g81 dX9_splits_199 ?_
              refine lv_ldc (v := 1000000) hx hb hown (hts _ kc_X9_170) dX9_splits_200 ?_
              refine lv_icmp_le (tgt := 217) hx hb dX9_splits_202 (by decide) (fun c82 => ?_) (fun c82 => ?_)
              · replace h := ifT h c82
                refine lv_bipush (v := 10) hx hb dX9_splits_217 (by decide) ?_
                refine lv_aload_n hx hb dX9_splits_219 rfl (lv_at hl 0 rfl) ?_
                refine m_get X w 0 sm_n0 sm_k0 ci9 16 (by decide) (fvR sm_k0 rfl sm_p16) rfl fl_X9_57 dX9_splits_220 ?_
                refine lv_aload_n hx hb dX9_splits_223 rfl (lv_at hl 0 rfl) ?_
                refine m_get X w 0 sm_n0 sm_k0 ci9 18 (by decide) (fvI sm_k0 rfl) rfl fl_X9_158 dX9_splits_224 ?_
                obtain ⟨g83, h⟩ := cki h
                refine m_iald X w 10 sm_n10 sm_k10 sm_z10 g83 dX9_splits_227 ?_
                refine lv_imul hx hb dX9_splits_228 ?_
                refine lv_aload_n hx hb dX9_splits_229 rfl (lv_at hl 0 rfl) ?_
                refine m_get X w 0 sm_n0 sm_k0 ci9 11 (by decide) (fvR sm_k0 rfl sm_p11) rfl fl_X9_45 dX9_splits_230 ?_
                refine lv_iload hx hb dX9_splits_233 (lv_at hl 4 rfl) ?_
                obtain ⟨g84, h⟩ := cki h
                refine m_bald X w 7 sm_n7 sm_k7 sm_z7 g84 dX9_splits_235 ?_
                refine lv_iadd hx hb dX9_splits_236 ?_
                refine lv_bipush (v := 48) hx hb dX9_splits_237 (by decide) ?_
                refine lv_isub hx hb dX9_splits_239 ?_
                have g := B240 V v1 v3 v4 v5 ((((10 : Int32) * (V.2.1 10 (V.1 0 18).toNatClampNeg)) + (V.2.1 7 v5.toNatClampNeg)) - (48 : Int32)) (V.1 0 18) h
                rw [hG] at g
                exact g H locs ls w (lv_sub hl [0, 1, 2, 3, 4] rfl)
              · replace h := ifF h c82
                refine lv_aload_n hx hb dX9_splits_205 rfl (lv_at hl 0 rfl) ?_
                refine m_get X w 0 sm_n0 sm_k0 ci9 16 (by decide) (fvR sm_k0 rfl sm_p16) rfl fl_X9_57 dX9_splits_206 ?_
                refine lv_aload_n hx hb dX9_splits_209 rfl (lv_at hl 0 rfl) ?_
                refine m_get X w 0 sm_n0 sm_k0 ci9 18 (by decide) (fvI sm_k0 rfl) rfl fl_X9_158 dX9_splits_210 ?_
                obtain ⟨g88, h⟩ := cki h
                refine m_iald X w 10 sm_n10 sm_k10 sm_z10 g88 dX9_splits_213 ?_
                refine lv_goto (tgt := 240) hx hb dX9_splits_214 (by decide) ?_
                have g := B240 V v1 v3 v4 v5 (V.2.1 10 (V.1 0 18).toNatClampNeg) (V.1 0 18) h
                rw [hG] at g
                exact g H locs ls w (lv_sub hl [0, 1, 2, 3, 4] rfl)
      have B165 : ∀ (V : Vt) (v1 : Int32) (v2 : Int32) (v3 : Int32) (v4 : Int32) (s0 : Int32) (s1 : Int32), f_X9_splits_165 N (f_X9_splits_7 N n7) V v1 v2 v3 v4 s0 s1 = some V' → G 165 V [(0, .ref (ad 0)), (1, .int v1), (2, .int v2), (3, .int v3), (4, .int v4)] [.int s0, .int s1, .ref (ad 9)] := by
        intro V v1 v2 v3 v4 s0 s1 h
        rw [hG]
        intro H locs ls w hl
        rw [f_X9_splits_165] at h
        obtain ⟨g74, h⟩ := cki h
        refine m_iast X w 9 sm_n9 sm_k9 sm_z9 g74 dX9_splits_165 (fun V75 H locs eV75 w => ?_)
        replace h := bdi h _ eV75
        refine lv_iload_n hx hb dX9_splits_166 rfl (lv_at hl 2 rfl) ?_
        refine lv_istore (lv' := [(5, .int v2), (0, .ref (ad 0)), (1, .int v1), (2, .int v2), (3, .int v3), (4, .int v4)]) hx hb dX9_splits_167 hl (by decide) rfl (fun ls hl => ?_)
        have g := L169 N V75 v1 v3 v4 v2 h
        rw [hG] at g
        exact g H locs ls w (lv_sub hl [1, 2, 4, 5, 0] rfl)
      have B100 : ∀ (V : Vt) (v1 : Int32) (v2 : Int32) (v3 : Int32) (v4 : Int32), f_X9_splits_100 N (f_X9_splits_7 N n7) V v1 v2 v3 v4 = some V' → G 100 V [(0, .ref (ad 0)), (1, .int v1), (2, .int v2), (3, .int v3), (4, .int v4)] [] := by
        intro V v1 v2 v3 v4 h
        rw [hG]
        intro H locs ls w hl
        rw [f_X9_splits_100] at h
        refine lv_aload_n hx hb dX9_splits_100 rfl (lv_at hl 0 rfl) ?_
        refine m_get X w 0 sm_n0 sm_k0 ci9 17 (by decide) (fvR sm_k0 rfl sm_p17) rfl fl_X9_60 dX9_splits_101 ?_
        refine lv_aload_n hx hb dX9_splits_104 rfl (lv_at hl 0 rfl) ?_
        refine m_get X w 0 sm_n0 sm_k0 ci9 18 (by decide) (fvI sm_k0 rfl) rfl fl_X9_158 dX9_splits_105 ?_
        refine lv_iload_n hx hb dX9_splits_108 rfl (lv_at hl 2 rfl) ?_
        obtain ⟨g64, h⟩ := cki h
        refine m_iast X w 11 sm_n11 sm_k11 sm_z11 g64 dX9_splits_109 (fun V65 H locs eV65 w => ?_)
        replace h := bdi h _ eV65
        refine lv_aload_n hx hb dX9_splits_110 rfl (lv_at hl 0 rfl) ?_
        refine m_get X w 0 sm_n0 sm_k0 ci9 16 (by decide) (fvR sm_k0 rfl sm_p16) rfl fl_X9_57 dX9_splits_111 ?_
        refine lv_aload_n hx hb dX9_splits_114 rfl (lv_at hl 0 rfl) ?_
        refine m_get X w 0 sm_n0 sm_k0 ci9 18 (by decide) (fvI sm_k0 rfl) rfl fl_X9_158 dX9_splits_115 ?_
        refine lv_iconst (v := 0) hx hb dX9_splits_118 (by decide) ?_
        obtain ⟨g66, h⟩ := cki h
        refine m_iast X w 10 sm_n10 sm_k10 sm_z10 g66 dX9_splits_119 (fun V67 H locs eV67 w => ?_)
        replace h := bdi h _ eV67
        refine lv_aload_n hx hb dX9_splits_120 rfl (lv_at hl 0 rfl) ?_
        refine m_get X w 0 sm_n0 sm_k0 ci9 15 (by decide) (fvR sm_k0 rfl sm_p15) rfl fl_X9_54 dX9_splits_121 ?_
        refine lv_aload_n hx hb dX9_splits_124 rfl (lv_at hl 0 rfl) ?_
        refine m_get X w 0 sm_n0 sm_k0 ci9 18 (by decide) (fvI sm_k0 rfl) rfl fl_X9_158 dX9_splits_125 ?_
        refine lv_iload_n hx hb dX9_splits_128 rfl (lv_at hl 3 rfl) ?_
        obtain ⟨r68, q69, h⟩ := ob1i h
        refine m_ci (m_rS (As := [.int v3]) (rest := [.int (V67.1 0 18), .ref (ad 9)]) X w hl mi_X9_isSmall ml_X9_161 (c_X9_isSmall l D cy ad A Kc C0 N z V67 v3 r68 q69) ⟨⟨rfl, rfl, Nat.le_of_ble_eq_true rfl, Nat.le_of_ble_eq_true rfl⟩, Nat.le_of_ble_eq_true rfl, Nat.le_of_ble_eq_true rfl⟩ rfl rfl (Nat.le_of_ble_eq_true rfl) dX9_splits_129) w (fun H locs w => ?_)
        refine lv_if_eq (tgt := 145) hx hb dX9_splits_132 (by decide) (fun c70 => ?_) (fun c70 => ?_)
        · replace h := ifT h c70
          refine lv_iload_n hx hb dX9_splits_145 rfl (lv_at hl 3 rfl) ?_
          obtain ⟨r71, q72, h⟩ := ob1i h
          refine m_ci (m_rS (As := [.int v3]) (rest := [.int (V67.1 0 18), .ref (ad 9)]) X w hl mi_X9_isDigit ml_X9_164 (c_X9_isDigit l D cy ad A Kc C0 N z V67 v3 r71 q72) ⟨⟨rfl, rfl, Nat.le_of_ble_eq_true rfl, Nat.le_of_ble_eq_true rfl⟩, Nat.le_of_ble_eq_true rfl, Nat.le_of_ble_eq_true rfl⟩ rfl rfl (Nat.le_of_ble_eq_true rfl) dX9_splits_146) w (fun H locs w => ?_)
          refine lv_if_eq (tgt := 157) hx hb dX9_splits_149 (by decide) (fun c73 => ?_) (fun c73 => ?_)
          · replace h := ifT h c73
            refine lv_bipush (v := 100) hx hb dX9_splits_157 (by decide) ?_
            refine lv_iload_n hx hb dX9_splits_159 rfl (lv_at hl 3 rfl) ?_
            refine lv_sipush (v := 255) hx hb dX9_splits_160 (by decide) ?_
            refine lv_iand hx hb dX9_splits_163 ?_
            refine lv_iadd hx hb dX9_splits_164 ?_
            have g := B165 V67 v1 v2 v3 v4 ((100 : Int32) + (v3 &&& (255 : Int32))) (V67.1 0 18) h
            rw [hG] at g
            exact g H locs ls w (lv_sub hl [0, 1, 2, 3, 4] rfl)
          · replace h := ifF h c73
            refine lv_bipush (v := 50) hx hb dX9_splits_152 (by decide) ?_
            refine lv_goto (tgt := 165) hx hb dX9_splits_154 (by decide) ?_
            have g := B165 V67 v1 v2 v3 v4 (50 : Int32) (V67.1 0 18) h
            rw [hG] at g
            exact g H locs ls w (lv_sub hl [0, 1, 2, 3, 4] rfl)
        · replace h := ifF h c70
          refine lv_aload_n hx hb dX9_splits_135 rfl (lv_at hl 0 rfl) ?_
          refine lv_iload_n hx hb dX9_splits_136 rfl (lv_at hl 2 rfl) ?_
          refine lv_iload hx hb dX9_splits_137 (lv_at hl 4 rfl) ?_
          obtain ⟨r89, q90, h⟩ := ob1i h
          refine m_ci (m_rV (As := [.int v2, .int v4]) (rest := [.int (V67.1 0 18), .ref (ad 9)]) X w hl mi_X9_wordOf ml_X9_167 0 sm_n0 sm_k0 rfl (c_X9_wordOf l D cy ad A Kc C0 N z V67 v2 v4 r89 q90) ⟨⟨rfl, rfl, Nat.le_of_ble_eq_true rfl, Nat.le_of_ble_eq_true rfl⟩, Nat.le_of_ble_eq_true rfl, Nat.le_of_ble_eq_true rfl⟩ rfl rfl (Nat.le_of_ble_eq_true rfl) dX9_splits_139) w (fun H locs w => ?_)
          refine lv_goto (tgt := 165) hx hb dX9_splits_142 (by decide) ?_
          have g := B165 V67 v1 v2 v3 v4 r89 (V67.1 0 18) h
          rw [hG] at g
          exact g H locs ls w (lv_sub hl [0, 1, 2, 3, 4] rfl)
      have L75 : ∀ (n75 : Nat) (V : Vt) (v1 : Int32) (v2 : Int32) (v3 : Int32) (v4 : Int32), f_X9_splits_75 N (f_X9_splits_7 N n7) n75 V v1 v2 v3 v4 = some V' → G 75 V [(0, .ref (ad 0)), (1, .int v1), (2, .int v2), (3, .int v3), (4, .int v4)] [] := by
        intro n75
        induction n75 with
        | zero => intro V v1 v2 v3 v4 h; rw [f_X9_splits_75] at h; cases h
        | succ n75 ih75 =>
          intro V v1 v2 v3 v4 h
          rw [hG]
          intro H locs ls w hl
          rw [f_X9_splits_75] at h
          refine lv_iload hx hb dX9_splits_75 (lv_at hl 4 rfl) ?_
          refine lv_iload_n hx hb dX9_splits_77 rfl (lv_at hl 1 rfl) ?_
          refine lv_icmp_ge (tgt := 100) hx hb dX9_splits_78 (by decide) (fun c91 => ?_) (fun c91 => ?_)
          · replace h := ifT h c91
            have g := B100 V v1 v2 v3 v4 h
            rw [hG] at g
            exact g H locs ls w (lv_sub hl [0, 1, 2, 3, 4] rfl)
          · replace h := ifF h c91
            refine lv_aload_n hx hb dX9_splits_81 rfl (lv_at hl 0 rfl) ?_
            refine m_get X w 0 sm_n0 sm_k0 ci9 11 (by decide) (fvR sm_k0 rfl sm_p11) rfl fl_X9_45 dX9_splits_82 ?_
            refine lv_iload hx hb dX9_splits_85 (lv_at hl 4 rfl) ?_
            obtain ⟨g92, h⟩ := cki h
            refine m_bald X w 7 sm_n7 sm_k7 sm_z7 g92 dX9_splits_87 ?_
            obtain ⟨r93, q94, h⟩ := ob1i h
            refine m_ci (m_rS (As := [.int (V.2.1 7 v4.toNatClampNeg)]) (rest := []) X w hl mi_X9_isDigit ml_X9_164 (c_X9_isDigit l D cy ad A Kc C0 N z V (V.2.1 7 v4.toNatClampNeg) r93 q94) ⟨⟨rfl, rfl, Nat.le_of_ble_eq_true rfl, Nat.le_of_ble_eq_true rfl⟩, Nat.le_of_ble_eq_true rfl, Nat.le_of_ble_eq_true rfl⟩ rfl rfl (Nat.le_of_ble_eq_true rfl) dX9_splits_88) w (fun H locs w => ?_)
            refine lv_if_eq (tgt := 100) hx hb dX9_splits_91 (by decide) (fun c95 => ?_) (fun c95 => ?_)
            · replace h := ifT h c95
              have g := B100 V v1 v2 v3 v4 h
              rw [hG] at g
              exact g H locs ls w (lv_sub hl [0, 1, 2, 3, 4] rfl)
            · replace h := ifF h c95
              obtain ⟨x96, ex96⟩ : ∃ y : Int32, y = v4 + (1 : Int32) := ⟨_, rfl⟩
              replace h := bdi h _ ex96
              refine lv_iinc (v := x96) (lv' := [(4, .int x96), (0, .ref (ad 0)), (1, .int v1), (2, .int v2), (3, .int v3)]) hx hb dX9_splits_94 hl (k := 4) rfl (by rw [ex96]; rfl) (by decide) rfl (fun ls hl => ?_)
              refine lv_goto (tgt := 75) hx hb dX9_splits_97 (by decide) ?_
              have g := ih75 V v1 v2 v3 x96 h
              rw [hG] at g
              exact g H locs ls w (lv_sub hl [1, 2, 3, 4, 0] rfl)
      have B68 : ∀ (V : Vt) (v1 : Int32) (v2 : Int32) (v3 : Int32) (v4 : Int32), f_X9_splits_68 N (f_X9_splits_7 N n7) V v1 v2 v3 v4 = some V' → G 68 V [(0, .ref (ad 0)), (1, .int v1), (2, .int v2), (3, .int v3), (4, .int v4)] [] := by
        intro V v1 v2 v3 v4 h
        rw [hG]
        intro H locs ls w hl
        rw [f_X9_splits_68] at h
        refine lv_iload_n hx hb dX9_splits_68 rfl (lv_at hl 3 rfl) ?_
        obtain ⟨r61, q62, h⟩ := ob1i h
        refine m_ci (m_rS (As := [.int v3]) (rest := []) X w hl mi_X9_isDigit ml_X9_164 (c_X9_isDigit l D cy ad A Kc C0 N z V v3 r61 q62) ⟨⟨rfl, rfl, Nat.le_of_ble_eq_true rfl, Nat.le_of_ble_eq_true rfl⟩, Nat.le_of_ble_eq_true rfl, Nat.le_of_ble_eq_true rfl⟩ rfl rfl (Nat.le_of_ble_eq_true rfl) dX9_splits_69) w (fun H locs w => ?_)
        refine lv_if_eq (tgt := 100) hx hb dX9_splits_72 (by decide) (fun c63 => ?_) (fun c63 => ?_)
        · replace h := ifT h c63
          have g := B100 V v1 v2 v3 v4 h
          rw [hG] at g
          exact g H locs ls w (lv_sub hl [0, 1, 2, 3, 4] rfl)
        · replace h := ifF h c63
          have g := L75 N V v1 v2 v3 v4 h
          rw [hG] at g
          exact g H locs ls w (lv_sub hl [0, 1, 2, 3, 4] rfl)
      have L43 : ∀ (n43 : Nat) (V : Vt) (v1 : Int32) (v2 : Int32) (v3 : Int32) (v4 : Int32), f_X9_splits_43 N (f_X9_splits_7 N n7) n43 V v1 v2 v3 v4 = some V' → G 43 V [(0, .ref (ad 0)), (1, .int v1), (2, .int v2), (3, .int v3), (4, .int v4)] [] := by
        intro n43
        induction n43 with
        | zero => intro V v1 v2 v3 v4 h; rw [f_X9_splits_43] at h; cases h
        | succ n43 ih43 =>
          intro V v1 v2 v3 v4 h
          rw [hG]
          intro H locs ls w hl
          rw [f_X9_splits_43] at h
          refine lv_iload hx hb dX9_splits_43 (lv_at hl 4 rfl) ?_
          refine lv_iload_n hx hb dX9_splits_45 rfl (lv_at hl 1 rfl) ?_
          refine lv_icmp_ge (tgt := 68) hx hb dX9_splits_46 (by decide) (fun c97 => ?_) (fun c97 => ?_)
          · replace h := ifT h c97
            have g := B68 V v1 v2 v3 v4 h
            rw [hG] at g
            exact g H locs ls w (lv_sub hl [0, 1, 2, 3, 4] rfl)
          · replace h := ifF h c97
            refine lv_aload_n hx hb dX9_splits_49 rfl (lv_at hl 0 rfl) ?_
            refine m_get X w 0 sm_n0 sm_k0 ci9 11 (by decide) (fvR sm_k0 rfl sm_p11) rfl fl_X9_45 dX9_splits_50 ?_
            refine lv_iload hx hb dX9_splits_53 (lv_at hl 4 rfl) ?_
            obtain ⟨g98, h⟩ := cki h
            refine m_bald X w 7 sm_n7 sm_k7 sm_z7 g98 dX9_splits_55 ?_
            obtain ⟨r99, q100, h⟩ := ob1i h
            refine m_ci (m_rS (As := [.int (V.2.1 7 v4.toNatClampNeg)]) (rest := []) X w hl mi_X9_isSmall ml_X9_161 (c_X9_isSmall l D cy ad A Kc C0 N z V (V.2.1 7 v4.toNatClampNeg) r99 q100) ⟨⟨rfl, rfl, Nat.le_of_ble_eq_true rfl, Nat.le_of_ble_eq_true rfl⟩, Nat.le_of_ble_eq_true rfl, Nat.le_of_ble_eq_true rfl⟩ rfl rfl (Nat.le_of_ble_eq_true rfl) dX9_splits_56) w (fun H locs w => ?_)
            refine lv_if_eq (tgt := 68) hx hb dX9_splits_59 (by decide) (fun c101 => ?_) (fun c101 => ?_)
            · replace h := ifT h c101
              have g := B68 V v1 v2 v3 v4 h
              rw [hG] at g
              exact g H locs ls w (lv_sub hl [0, 1, 2, 3, 4] rfl)
            · replace h := ifF h c101
              obtain ⟨x102, ex102⟩ : ∃ y : Int32, y = v4 + (1 : Int32) := ⟨_, rfl⟩
              replace h := bdi h _ ex102
              refine lv_iinc (v := x102) (lv' := [(4, .int x102), (0, .ref (ad 0)), (1, .int v1), (2, .int v2), (3, .int v3)]) hx hb dX9_splits_62 hl (k := 4) rfl (by rw [ex102]; rfl) (by decide) rfl (fun ls hl => ?_)
              refine lv_goto (tgt := 43) hx hb dX9_splits_65 (by decide) ?_
              have g := ih43 V v1 v2 v3 x102 h
              rw [hG] at g
              exact g H locs ls w (lv_sub hl [1, 2, 3, 4, 0] rfl)
      intro V v1 v2 h
      rw [hG]
      intro H locs ls w hl
      rw [f_X9_splits_7] at h
      refine lv_iload_n hx hb dX9_splits_7 rfl (lv_at hl 2 rfl) ?_
      refine lv_iload_n hx hb dX9_splits_8 rfl (lv_at hl 1 rfl) ?_
      refine lv_icmp_ge (tgt := 263) hx hb dX9_splits_9 (by decide) (fun c47 => ?_) (fun c47 => ?_)
      · replace h := ifT h c47
        refine lv_aload_n hx hb dX9_splits_263 rfl (lv_at hl 0 rfl) ?_
        refine m_get X w 0 sm_n0 sm_k0 ci9 17 (by decide) (fvR sm_k0 rfl sm_p17) rfl fl_X9_60 dX9_splits_264 ?_
        refine lv_aload_n hx hb dX9_splits_267 rfl (lv_at hl 0 rfl) ?_
        refine m_get X w 0 sm_n0 sm_k0 ci9 18 (by decide) (fvI sm_k0 rfl) rfl fl_X9_158 dX9_splits_268 ?_
        refine lv_iload_n hx hb dX9_splits_271 rfl (lv_at hl 1 rfl) ?_
        obtain ⟨g48, h⟩ := cki h
        refine m_iast X w 11 sm_n11 sm_k11 sm_z11 g48 dX9_splits_272 (fun V49 H locs eV49 w => ?_)
        replace h := bdi h _ eV49
        refine lv_aload_n hx hb dX9_splits_273 rfl (lv_at hl 0 rfl) ?_
        refine m_get X w 0 sm_n0 sm_k0 ci9 15 (by decide) (fvR sm_k0 rfl sm_p15) rfl fl_X9_54 dX9_splits_274 ?_
        refine lv_aload_n hx hb dX9_splits_277 rfl (lv_at hl 0 rfl) ?_
        refine m_get X w 0 sm_n0 sm_k0 ci9 18 (by decide) (fvI sm_k0 rfl) rfl fl_X9_158 dX9_splits_278 ?_
        refine lv_iconst (v := 0) hx hb dX9_splits_281 (by decide) ?_
        obtain ⟨g50, h⟩ := cki h
        refine m_iast X w 9 sm_n9 sm_k9 sm_z9 g50 dX9_splits_282 (fun V51 H locs eV51 w => ?_)
        replace h := bdi h _ eV51
        refine lv_aload_n hx hb dX9_splits_283 rfl (lv_at hl 0 rfl) ?_
        refine m_get X w 0 sm_n0 sm_k0 ci9 16 (by decide) (fvR sm_k0 rfl sm_p16) rfl fl_X9_57 dX9_splits_284 ?_
        refine lv_aload_n hx hb dX9_splits_287 rfl (lv_at hl 0 rfl) ?_
        refine m_get X w 0 sm_n0 sm_k0 ci9 18 (by decide) (fvI sm_k0 rfl) rfl fl_X9_158 dX9_splits_288 ?_
        refine lv_iconst (v := 0) hx hb dX9_splits_291 (by decide) ?_
        obtain ⟨g52, h⟩ := cki h
        refine m_iast X w 10 sm_n10 sm_k10 sm_z10 g52 dX9_splits_292 (fun V53 H locs eV53 w => ?_)
        replace h := bdi h _ eV53
        obtain rfl := Option.some.inj h
        exact m_rv X w hr hlocks dX9_splits_293
      · replace h := ifF h c47
        refine lv_aload_n hx hb dX9_splits_12 rfl (lv_at hl 0 rfl) ?_
        refine m_get X w 0 sm_n0 sm_k0 ci9 11 (by decide) (fvR sm_k0 rfl sm_p11) rfl fl_X9_45 dX9_splits_13 ?_
        refine lv_iload_n hx hb dX9_splits_16 rfl (lv_at hl 2 rfl) ?_
        obtain ⟨g54, h⟩ := cki h
        refine m_bald X w 7 sm_n7 sm_k7 sm_z7 g54 dX9_splits_17 ?_
        refine lv_topi (fun x55 ex55 => ?_)
        replace h := bdi h _ ex55
        refine lv_istore_n (lv' := [(3, .int x55), (0, .ref (ad 0)), (1, .int v1), (2, .int v2)]) hx hb dX9_splits_18 rfl hl (by decide) rfl (fun ls hl => ?_)
        refine lv_iload_n hx hb dX9_splits_19 rfl (lv_at hl 0 rfl) ?_
        refine lv_bipush (v := 32) hx hb dX9_splits_20 (by decide) ?_
        refine lv_icmp_ne (tgt := 31) hx hb dX9_splits_22 (by decide) (fun c56 => ?_) (fun c56 => ?_)
        · replace h := ifF h c56
          refine lv_iload_n hx hb dX9_splits_31 rfl (lv_at hl 3 rfl) ?_
          refine lv_iconst (v := 1) hx hb dX9_splits_32 (by decide) ?_
          refine lv_iadd hx hb dX9_splits_33 ?_
          refine lv_topi (fun x57 ex57 => ?_)
          replace h := bdi h _ ex57
          refine lv_istore (lv' := [(4, .int x57), (3, .int x55), (0, .ref (ad 0)), (1, .int v1), (2, .int v2)]) hx hb dX9_splits_34 hl (by decide) rfl (fun ls hl => ?_)
          refine lv_iload_n hx hb dX9_splits_36 rfl (lv_at hl 1 rfl) ?_
          obtain ⟨r58, q59, h⟩ := ob1i h
          refine m_ci (m_rS (As := [.int x55]) (rest := []) X w hl mi_X9_isSmall ml_X9_161 (c_X9_isSmall l D cy ad A Kc C0 N z V x55 r58 q59) ⟨⟨rfl, rfl, Nat.le_of_ble_eq_true rfl, Nat.le_of_ble_eq_true rfl⟩, Nat.le_of_ble_eq_true rfl, Nat.le_of_ble_eq_true rfl⟩ rfl rfl (Nat.le_of_ble_eq_true rfl) dX9_splits_37) w (fun H locs w => ?_)
          refine lv_if_eq (tgt := 68) hx hb dX9_splits_40 (by decide) (fun c60 => ?_) (fun c60 => ?_)
          · replace h := ifT h c60
            have g := B68 V v1 v2 x55 x57 h
            rw [hG] at g
            exact g H locs ls w (lv_sub hl [2, 3, 4, 1, 0] rfl)
          · replace h := ifF h c60
            have g := L43 N V v1 v2 x55 x57 h
            rw [hG] at g
            exact g H locs ls w (lv_sub hl [2, 3, 4, 1, 0] rfl)
        · replace h := ifT h c56
          obtain ⟨x103, ex103⟩ : ∃ y : Int32, y = v2 + (1 : Int32) := ⟨_, rfl⟩
          replace h := bdi h _ ex103
          refine lv_iinc (v := x103) (lv' := [(2, .int x103), (3, .int x55), (0, .ref (ad 0)), (1, .int v1)]) hx hb dX9_splits_25 hl (k := 3) rfl (by rw [ex103]; rfl) (by decide) rfl (fun ls hl => ?_)
          refine lv_goto (tgt := 7) hx hb dX9_splits_28 (by decide) ?_
          have g := ih7 V v1 x103 h
          rw [hG] at g
          exact g H locs ls w (lv_sub hl [2, 3, 0] rfl)
  rw [f_X9_splits] at h
  refine lv_aload_n hx hb dX9_splits_0 rfl (lv_at hl 0 rfl) ?_
  refine lv_iconst (v := 0) hx hb dX9_splits_1 (by decide) ?_
  refine m_put X w 0 sm_n0 sm_k0 ci9 18 (by decide) rfl rfl rfl rfl rfl fl_X9_158 dX9_splits_2 (fun V46 H locs eV46 w => ?_)
  replace h := bdi h _ eV46
  refine lv_iconst (v := 0) hx hb dX9_splits_5 (by decide) ?_
  refine lv_istore_n (lv' := [(2, .int (0 : Int32)), (0, .ref (ad 0)), (1, .int a1)]) hx hb dX9_splits_6 rfl hl (by decide) rfl (fun ls hl => ?_)
  have g := L7 N V46 a1 (0 : Int32) h
  rw [hG] at g
  exact g H locs ls w (lv_sub hl [1, 2, 0] rfl)
def f_X9_faults (N : Nat) (V : Vt) : Option Vt := ob1 (f_X9_fine N V) (fun r5 => if r5 = 0 then some V else ck (V.1 0 19) 401 (bd (sF V 0 21 (V.2.1 11 (V.1 0 19).toNatClampNeg)) (fun V9 => some V9)))
set_option maxHeartbeats 4000000 in
set_option maxRecDepth 100000 in
theorem c_X9_faults (l : Launch) (D : va_G) (cy : Nat → ClassId) (ad : Nat → Nat) (A : Nat → Prop) (Kc : State → Prop) (C0 : Cx ad A Kc) (N : Nat) (z : Nat) (V : Vt) (V' : Vt) (h : f_X9_faults N V = some V') : Met l yX9_faults (mw yX9_faults cX9_faults 1 none) { frames := 1, cells := 0, slots := 0, locals := 20 } (PreM D cy ad Kc (SM z) V [.ref (ad 0)]) (QV D cy ad A (SM z) V') 0 0 A := by
  refine ct_go C0 (own := RX9) rfl (by decide) rfl ?_
  intro p e s m below meth c ls H locs X hr hlocks hnm hl w
  have hx := X.1.1
  have hb := X.1.2.1
  have hown := X.2.1
  have hts := X.2.2.1
  have hl : lv_has ls 1 [(0, .ref (ad 0))] := hl
  rw [f_X9_faults] at h
  refine lv_aload_n hx hb dX9_faults_0 rfl (lv_at hl 0 rfl) ?_
  obtain ⟨r5, q6, h⟩ := ob1i h
  refine m_ci (m_rV (As := []) (rest := []) X w hl mi_X9_fine ml_X9_174 0 sm_n0 sm_k0 rfl (c_X9_fine l D cy ad A Kc C0 N z V  r5 q6) ⟨⟨rfl, rfl, Nat.le_of_ble_eq_true rfl, Nat.le_of_ble_eq_true rfl⟩, Nat.le_of_ble_eq_true rfl, Nat.le_of_ble_eq_true rfl⟩ rfl rfl (Nat.le_of_ble_eq_true rfl) dX9_faults_1) w (fun H locs w => ?_)
  refine lv_if_eq (tgt := 20) hx hb dX9_faults_4 (by decide) (fun c7 => ?_) (fun c7 => ?_)
  · replace h := ifT h c7
    obtain rfl := Option.some.inj h
    exact m_rv X w hr hlocks dX9_faults_20
  · replace h := ifF h c7
    refine lv_aload_n hx hb dX9_faults_7 rfl (lv_at hl 0 rfl) ?_
    refine lv_aload_n hx hb dX9_faults_8 rfl (lv_at hl 0 rfl) ?_
    refine m_get X w 0 sm_n0 sm_k0 ci9 17 (by decide) (fvR sm_k0 rfl sm_p17) rfl fl_X9_60 dX9_faults_9 ?_
    refine lv_aload_n hx hb dX9_faults_12 rfl (lv_at hl 0 rfl) ?_
    refine m_get X w 0 sm_n0 sm_k0 ci9 19 (by decide) (fvI sm_k0 rfl) rfl fl_X9_178 dX9_faults_13 ?_
    obtain ⟨g8, h⟩ := cki h
    refine m_iald X w 11 sm_n11 sm_k11 sm_z11 g8 dX9_faults_16 ?_
    refine m_put X w 0 sm_n0 sm_k0 ci9 21 (by decide) rfl rfl rfl rfl rfl fl_X9_171 dX9_faults_17 (fun V9 H locs eV9 w => ?_)
    replace h := bdi h _ eV9
    obtain rfl := Option.some.inj h
    exact m_rv X w hr hlocks dX9_faults_20
def f_X9_takes0_25 (N : Nat) (V : Vt) (s0 : Int32) : Option (Int32 × Vt) := if s0 = 0 then cb s0 (some (s0, V)) else bd (sF V 0 19 ((V.1 0 19) + (1 : Int32))) (fun V10 => cb s0 (some (s0, V10)))
def f_X9_takes0_24 (N : Nat) (V : Vt) : Option (Int32 × Vt) := f_X9_takes0_25 N V (0 : Int32)
def f_X9_takes0 (N : Nat) (V : Vt) (a1 : Int32) : Option (Int32 × Vt) := ob1 (f_X9_fine N V) (fun r5 => if r5 = 0 then f_X9_takes0_24 N V  else ck (V.1 0 19) 401 (if (V.2.1 9 (V.1 0 19).toNatClampNeg) = a1 then f_X9_takes0_25 N V (1 : Int32) else f_X9_takes0_24 N V ))
set_option maxHeartbeats 4000000 in
set_option maxRecDepth 100000 in
theorem c_X9_takes0 (l : Launch) (D : va_G) (cy : Nat → ClassId) (ad : Nat → Nat) (A : Nat → Prop) (Kc : State → Prop) (C0 : Cx ad A Kc) (N : Nat) (z : Nat) (V : Vt) (a1 : Int32) (r : Int32) (V' : Vt) (h : f_X9_takes0 N V a1 = some (r, V')) : Met l yX9_takes0 (mw yX9_takes0 cX9_takes0 3 (some .boolean)) { frames := 1, cells := 0, slots := 0, locals := 20 } (PreM D cy ad Kc (SM z) V [.ref (ad 0), .int a1]) (QI D cy ad A r (SM z) V') 0 0 A := by
  refine ct_go C0 (own := RX9) rfl (by decide) rfl ?_
  intro p e s m below meth c ls H locs X hr hlocks hnm hl w
  have hx := X.1.1
  have hb := X.1.2.1
  have hown := X.2.1
  have hts := X.2.2.1
  have hl : lv_has ls 3 [(0, .ref (ad 0)), (1, .int a1)] := hl
  obtain ⟨G, hG⟩ : ∃ G : Nat → Vt → List (Nat × Value) → List Value → Prop, G = fun pc V lv st => ∀ (H : Heap) (locs : List Loc) (ls : Array Slot), Wd D cy ad A s.heap (SM z) V H locs → lv_has ls 3 lv → W p l e { frames := 1, cells := 0, slots := 0, locals := 20 } s m ([.ref (ad 0), .int a1] : List Value).toArray below meth c H locs 0 0 (MQ below (QI D cy ad A r (SM z) V') ([.ref (ad 0), .int a1] : List Value).toArray s 0 0 A) (F0 m pc ls st) := ⟨_, rfl⟩
  have B25 : ∀ (V : Vt) (s0 : Int32), f_X9_takes0_25 N V s0 = some (r, V') → G 25 V [(0, .ref (ad 0))] [.int s0] := by
    intro V s0 h
    rw [hG]
    intro H locs ls w hl
    rw [f_X9_takes0_25] at h
    refine lv_istore_n (lv' := [(2, .int s0), (0, .ref (ad 0))]) hx hb dX9_takes0_25 rfl hl (by decide) rfl (fun ls hl => ?_)
    refine lv_iload_n hx hb dX9_takes0_26 rfl (lv_at hl 0 rfl) ?_
    refine lv_if_eq (tgt := 40) hx hb dX9_takes0_27 (by decide) (fun c8 => ?_) (fun c8 => ?_)
    · replace h := ifT h c8
      refine lv_iload_n hx hb dX9_takes0_40 rfl (lv_at hl 0 rfl) ?_
      obtain ⟨g9, h⟩ := cbi h
      obtain ⟨rfl, rfl⟩ := reti h
      exact m_rz X w hr (nb01 g9) hlocks dX9_takes0_41
    · replace h := ifF h c8
      refine lv_aload_n hx hb dX9_takes0_30 rfl (lv_at hl 1 rfl) ?_
      refine lv_dup hx hb dX9_takes0_31 rfl ?_
      refine m_get X w 0 sm_n0 sm_k0 ci9 19 (by decide) (fvI sm_k0 rfl) rfl fl_X9_178 dX9_takes0_32 ?_
      refine lv_iconst (v := 1) hx hb dX9_takes0_35 (by decide) ?_
      refine lv_iadd hx hb dX9_takes0_36 ?_
      refine m_put X w 0 sm_n0 sm_k0 ci9 19 (by decide) rfl rfl rfl rfl rfl fl_X9_178 dX9_takes0_37 (fun V10 H locs eV10 w => ?_)
      replace h := bdi h _ eV10
      refine lv_iload_n hx hb dX9_takes0_40 rfl (lv_at hl 0 rfl) ?_
      obtain ⟨g11, h⟩ := cbi h
      obtain ⟨rfl, rfl⟩ := reti h
      exact m_rz X w hr (nb01 g11) hlocks dX9_takes0_41
  have B24 : ∀ (V : Vt), f_X9_takes0_24 N V  = some (r, V') → G 24 V [(0, .ref (ad 0))] [] := by
    intro V  h
    rw [hG]
    intro H locs ls w hl
    rw [f_X9_takes0_24] at h
    refine lv_iconst (v := 0) hx hb dX9_takes0_24 (by decide) ?_
    have g := B25 V (0 : Int32) h
    rw [hG] at g
    exact g H locs ls w (lv_sub hl [0] rfl)
  rw [f_X9_takes0] at h
  refine lv_aload_n hx hb dX9_takes0_0 rfl (lv_at hl 0 rfl) ?_
  obtain ⟨r5, q6, h⟩ := ob1i h
  refine m_ci (m_rV (As := []) (rest := []) X w hl mi_X9_fine ml_X9_174 0 sm_n0 sm_k0 rfl (c_X9_fine l D cy ad A Kc C0 N z V  r5 q6) ⟨⟨rfl, rfl, Nat.le_of_ble_eq_true rfl, Nat.le_of_ble_eq_true rfl⟩, Nat.le_of_ble_eq_true rfl, Nat.le_of_ble_eq_true rfl⟩ rfl rfl (Nat.le_of_ble_eq_true rfl) dX9_takes0_1) w (fun H locs w => ?_)
  refine lv_if_eq (tgt := 24) hx hb dX9_takes0_4 (by decide) (fun c7 => ?_) (fun c7 => ?_)
  · replace h := ifT h c7
    have g := B24 V  h
    rw [hG] at g
    exact g H locs ls w (lv_sub hl [0] rfl)
  · replace h := ifF h c7
    refine lv_aload_n hx hb dX9_takes0_7 rfl (lv_at hl 0 rfl) ?_
    refine m_get X w 0 sm_n0 sm_k0 ci9 15 (by decide) (fvR sm_k0 rfl sm_p15) rfl fl_X9_54 dX9_takes0_8 ?_
    refine lv_aload_n hx hb dX9_takes0_11 rfl (lv_at hl 0 rfl) ?_
    refine m_get X w 0 sm_n0 sm_k0 ci9 19 (by decide) (fvI sm_k0 rfl) rfl fl_X9_178 dX9_takes0_12 ?_
    obtain ⟨g12, h⟩ := cki h
    refine m_iald X w 9 sm_n9 sm_k9 sm_z9 g12 dX9_takes0_15 ?_
    refine lv_iload_n hx hb dX9_takes0_16 rfl (lv_at hl 1 rfl) ?_
    refine lv_icmp_ne (tgt := 24) hx hb dX9_takes0_17 (by decide) (fun c13 => ?_) (fun c13 => ?_)
    · replace h := ifF h c13
      have g := B24 V  h
      rw [hG] at g
      exact g H locs ls w (lv_sub hl [0] rfl)
    · replace h := ifT h c13
      refine lv_iconst (v := 1) hx hb dX9_takes0_20 (by decide) ?_
      refine lv_goto (tgt := 25) hx hb dX9_takes0_21 (by decide) ?_
      have g := B25 V (1 : Int32) h
      rw [hG] at g
      exact g H locs ls w (lv_sub hl [0] rfl)
def f_X9_force (N : Nat) (V : Vt) (a1 : Int32) : Option (Int32 × Vt) := ck (106 : Int32) 5715 (ob1 (f_X9_lies N a1 (-1 : Int32) ((V.2.1 2 (106 : Int32).toNatClampNeg) - (1 : Int32))) (fun r15 => if r15 = 0 then ob (f_X9_refuses N V (-2 : Int32)) (fun r25 V27 => some (r25, V27)) else ck (107 : Int32) 5715 (bd (V.2.1 2 (107 : Int32).toNatClampNeg) (fun x19 => ck (107 : Int32) 5715 (bd (sA V 2 (107 : Int32).toNatClampNeg a1) (fun V21 => ob (f_X9_good N V21 x19) (fun r22 V24 => some (r22, V24))))))))
set_option maxHeartbeats 4000000 in
set_option maxRecDepth 100000 in
theorem c_X9_force (l : Launch) (D : va_G) (cy : Nat → ClassId) (ad : Nat → Nat) (A : Nat → Prop) (Kc : State → Prop) (C0 : Cx ad A Kc) (N : Nat) (z : Nat) (V : Vt) (a1 : Int32) (r : Int32) (V' : Vt) (h : f_X9_force N V a1 = some (r, V')) : Met l yX9_force (mw yX9_force cX9_force 3 (some .int)) { frames := 1, cells := 0, slots := 0, locals := 22 } (PreM D cy ad Kc (SM z) V [.ref (ad 0), .int a1]) (QI D cy ad A r (SM z) V') 0 0 A := by
  refine ct_go C0 (own := RX9) rfl (by decide) rfl ?_
  intro p e s m below meth c ls H locs X hr hlocks hnm hl w
  have hx := X.1.1
  have hb := X.1.2.1
  have hown := X.2.1
  have hts := X.2.2.1
  have hl : lv_has ls 3 [(0, .ref (ad 0)), (1, .int a1)] := hl
  rw [f_X9_force] at h
  refine lv_iload_n hx hb dX9_force_0 rfl (lv_at hl 1 rfl) ?_
  refine lv_iconst (v := (-1)) hx hb dX9_force_1 (by decide) ?_
  refine lv_aload_n hx hb dX9_force_2 rfl (lv_at hl 0 rfl) ?_
  refine m_get X w 0 sm_n0 sm_k0 ci9 2 (by decide) (fvR sm_k0 rfl sm_p2) rfl fl_X9_28 dX9_force_3 ?_
  refine lv_bipush (v := 106) hx hb dX9_force_6 (by decide) ?_
  obtain ⟨g14, h⟩ := cki h
  refine m_iald X w 2 sm_n2 sm_k2 sm_z2 g14 dX9_force_8 ?_
  refine lv_iconst (v := 1) hx hb dX9_force_9 (by decide) ?_
  refine lv_isub hx hb dX9_force_10 ?_
  obtain ⟨r15, q16, h⟩ := ob1i h
  refine m_ci (m_rS (As := [.int a1, .int (-1 : Int32), .int ((V.2.1 2 (106 : Int32).toNatClampNeg) - (1 : Int32))]) (rest := []) X w hl mi_X9_lies ml_X9_18 (c_X9_lies l D cy ad A Kc C0 N z V a1 (-1 : Int32) ((V.2.1 2 (106 : Int32).toNatClampNeg) - (1 : Int32)) r15 q16) ⟨⟨rfl, rfl, Nat.le_of_ble_eq_true rfl, Nat.le_of_ble_eq_true rfl⟩, Nat.le_of_ble_eq_true rfl, Nat.le_of_ble_eq_true rfl⟩ rfl rfl (Nat.le_of_ble_eq_true rfl) dX9_force_11) w (fun H locs w => ?_)
  refine lv_if_ne (tgt := 24) hx hb dX9_force_14 (by decide) (fun c17 => ?_) (fun c17 => ?_)
  · replace h := ifF h c17
    refine lv_aload_n hx hb dX9_force_24 rfl (lv_at hl 0 rfl) ?_
    refine m_get X w 0 sm_n0 sm_k0 ci9 2 (by decide) (fvR sm_k0 rfl sm_p2) rfl fl_X9_28 dX9_force_25 ?_
    refine lv_bipush (v := 107) hx hb dX9_force_28 (by decide) ?_
    obtain ⟨g18, h⟩ := cki h
    refine m_iald X w 2 sm_n2 sm_k2 sm_z2 g18 dX9_force_30 ?_
    refine lv_topi (fun x19 ex19 => ?_)
    replace h := bdi h _ ex19
    refine lv_istore_n (lv' := [(2, .int x19), (0, .ref (ad 0)), (1, .int a1)]) hx hb dX9_force_31 rfl hl (by decide) rfl (fun ls hl => ?_)
    refine lv_aload_n hx hb dX9_force_32 rfl (lv_at hl 1 rfl) ?_
    refine m_get X w 0 sm_n0 sm_k0 ci9 2 (by decide) (fvR sm_k0 rfl sm_p2) rfl fl_X9_28 dX9_force_33 ?_
    refine lv_bipush (v := 107) hx hb dX9_force_36 (by decide) ?_
    refine lv_iload_n hx hb dX9_force_38 rfl (lv_at hl 2 rfl) ?_
    obtain ⟨g20, h⟩ := cki h
    refine m_iast X w 2 sm_n2 sm_k2 sm_z2 g20 dX9_force_39 (fun V21 H locs eV21 w => ?_)
    replace h := bdi h _ eV21
    refine lv_aload_n hx hb dX9_force_40 rfl (lv_at hl 1 rfl) ?_
    refine lv_iload_n hx hb dX9_force_41 rfl (lv_at hl 0 rfl) ?_
    obtain ⟨r22, V24, q23, h⟩ := obi h
    refine m_ci (m_rV (As := [.int x19]) (rest := []) X w hl mi_X9_good ml_X9_14 0 sm_n0 sm_k0 rfl (c_X9_good l D cy ad A Kc C0 N z V21 x19 r22 V24 q23) ⟨⟨rfl, rfl, Nat.le_of_ble_eq_true rfl, Nat.le_of_ble_eq_true rfl⟩, Nat.le_of_ble_eq_true rfl, Nat.le_of_ble_eq_true rfl⟩ rfl rfl (Nat.le_of_ble_eq_true rfl) dX9_force_42) w (fun H locs w => ?_)
    obtain ⟨rfl, rfl⟩ := reti h
    exact m_ri X w hr hlocks dX9_force_45
  · replace h := ifT h c17
    refine lv_aload_n hx hb dX9_force_17 rfl (lv_at hl 0 rfl) ?_
    refine lv_bipush (v := (-2)) hx hb dX9_force_18 (by decide) ?_
    obtain ⟨r25, V27, q26, h⟩ := obi h
    refine m_ci (m_rV (As := [.int (-2 : Int32)]) (rest := []) X w hl mi_X9_refuses ml_X9_109 0 sm_n0 sm_k0 rfl (c_X9_refuses l D cy ad A Kc C0 N z V (-2 : Int32) r25 V27 q26) ⟨⟨rfl, rfl, Nat.le_of_ble_eq_true rfl, Nat.le_of_ble_eq_true rfl⟩, Nat.le_of_ble_eq_true rfl, Nat.le_of_ble_eq_true rfl⟩ rfl rfl (Nat.le_of_ble_eq_true rfl) dX9_force_20) w (fun H locs w => ?_)
    obtain ⟨rfl, rfl⟩ := reti h
    exact m_ri X w hr hlocks dX9_force_23
