/-! Arrays.copyOf over a row of ints -/
def f_J7_copyOf_59c91 (N : Nat) (ad : Nat → Nat) (S : St) (V : Vt) (a1 : Nat) (a2 : Int32) : Option (Nat × St × Vt) :=
  if a2 = Nat.toInt32 (S.2.2.1 a1) then cg (S.2.2.1 a1 == a2.toNatClampNeg) (cg (ad S.1 == S.2.2.2.2) (some (S.1 + 1, nwA S 11 (S.2.2.1 a1), sC (zV V S.1) S.1 (V.2.1 a1))))
  else cg (decide (¬ a2 < 0)) (cg (Nat.ble a2.toNatClampNeg 100000) (cg (ad S.1 == S.2.2.2.2) (cg (cpB 0 0 (mnI (Nat.toInt32 (S.2.2.1 a1)) a2) (S.2.2.1 a1) a2.toNatClampNeg) (some (S.1 + 1, nwA S 11 a2.toNatClampNeg, sC (zV V S.1) S.1 (va_cpy ((zV V S.1).2.1 a1) ((zV V S.1).2.1 S.1) (0 : Int32).toNatClampNeg (0 : Int32).toNatClampNeg (mnI (Nat.toInt32 (S.2.2.1 a1)) a2).toNatClampNeg))))))
set_option maxHeartbeats 4000000 in
set_option maxRecDepth 100000 in
theorem c_J7_copyOf_59c91 (l : Launch) (D : va_G) (cy : Nat → ClassId) (ad : Nat → Nat) (A : Nat → Prop) (aK aV : Nat → Nat) (C0 : Cx ad A (KX A aK aV)) (N : Nat) (S : St) (V : Vt) (a1 : Nat) (hs_a1 : ash S a1) (a2 : Int32) (B : Nat) (hB : a2.toNatClampNeg ≤ B) (r : Nat) (S' : St) (V' : Vt) (h : f_J7_copyOf_59c91 N ad S V a1 a2 = some (r, S', V')) : Met l yJ7_copyOf_59c91 (mw yJ7_copyOf_59c91 cJ7_copyOf_59c91 3 (some (.array .int))) { frames := 1, cells := 1, slots := B, locals := 64 } (PreM D cy ad (KX A aK aV) S V [.ref (ad a1), .int a2]) (QN D cy ad A r S' V') 1 B A := by
  refine ct_goFK C0 (own := RJ7) rfl (by decide) rfl ?_
  intro p e s m below meth c ls H locs hKc X hr hlocks hnm hl w
  have hx := X.1.1
  have hb := X.1.2.1
  have hl : lv_has ls 3 [(0, .ref (ad a1)), (1, .int a2)] := hl
  rw [f_J7_copyOf_59c91] at h
  refine lv_iload_n hx hb dJ7_copyOf_59c91_0 rfl (lv_at hl 1 rfl) ?_
  refine lv_aload_n hx hb dJ7_copyOf_59c91_1 rfl (lv_at hl 0 rfl) ?_
  refine m_alenI (v := Nat.toInt32 (S.2.2.1 a1)) X w a1 hs_a1.1 hs_a1.2 rfl rfl dJ7_copyOf_59c91_2 ?_
  refine lv_icmp_ne (tgt := 14) hx hb dJ7_copyOf_59c91_3 (by decide) (fun c1 => ?_) (fun c1 => ?_)
  · replace h := ifF h c1
    obtain ⟨g1, h⟩ := cgi h
    have g1 : ¬ a2 < 0 := of_decide_eq_true g1
    obtain ⟨g2, h⟩ := cgi h
    have g2 := Nat.le_of_ble_eq_true g2
    obtain ⟨g3, h⟩ := cgi h
    have g3 := beq_iff_eq.mp g3
    obtain ⟨g4, h⟩ := cgi h
    have g4 := cpB_of g4
    refine lv_iload_n hx hb dJ7_copyOf_59c91_14 rfl (lv_at hl 1 rfl) ?_
    refine m_newa (N' := a2.toNatClampNeg) X w g3 (atype := .int) rfl 11 1 rfl na_int rfl nv_int ac_int g1 rfl (by show a2.toNatClampNeg * 4 ≤ 536870912; omega) (Nat.le_of_ble_eq_true rfl) (by show 0 + a2.toNatClampNeg ≤ B; omega) dJ7_copyOf_59c91_15 (fun S1 V1 H locs eS eV w => ?_)
    have hn1 : a1 < S1.1 := by rw [eS]; exact Nat.lt_succ_of_lt hs_a1.1
    have hne : a1 ≠ S.1 := Nat.ne_of_lt hs_a1.1
    have hk1 : S1.2.1 a1 = 11 := by rw [eS]; exact (va_up_ne _ _ hne).trans hs_a1.2
    have hz1 : S1.2.2.1 a1 = S.2.2.1 a1 := by rw [eS]; exact va_up_ne _ _ hne
    have hn2 : S.1 < S1.1 := by rw [eS]; exact Nat.lt_succ_self _
    have hk2 : S1.2.1 S.1 = 11 := by rw [eS]; exact va_up_self _ _ _
    have hz2 : S1.2.2.1 S.1 = a2.toNatClampNeg := by rw [eS]; exact va_up_self _ _ _
    refine lv_astore_n (lv' := [(2, .ref (ad S.1)), (0, .ref (ad a1)), (1, .int a2)]) hx hb dJ7_copyOf_59c91_17 rfl hl (by decide) rfl (fun ls hl => ?_)
    refine lv_aload_n hx hb dJ7_copyOf_59c91_18 rfl (lv_at hl 1 rfl) ?_
    refine lv_iconst (v := 0) hx hb dJ7_copyOf_59c91_19 (by decide) ?_
    refine lv_aload_n hx hb dJ7_copyOf_59c91_20 rfl (lv_at hl 0 rfl) ?_
    refine lv_iconst (v := 0) hx hb dJ7_copyOf_59c91_21 (by decide) ?_
    refine lv_aload_n hx hb dJ7_copyOf_59c91_22 rfl (lv_at hl 1 rfl) ?_
    refine m_alenI (v := Nat.toInt32 (S.2.2.1 a1)) X w a1 hn1 hk1 hz1 rfl dJ7_copyOf_59c91_23 ?_
    refine lv_iload_n hx hb dJ7_copyOf_59c91_24 rfl (lv_at hl 2 rfl) ?_
    refine m_min (rest := [.int 0, .ref (ad S.1), .int 0, .ref (ad a1)]) X hl ml_J7_304 (Nat.le_of_ble_eq_true rfl) (Nat.le_of_ble_eq_true rfl) (Nat.le_of_ble_eq_true rfl) (by show 0 + a2.toNatClampNeg ≤ B; omega) dJ7_copyOf_59c91_25 ?_
    refine m_copy (rest := []) X w hl ml_J7_150 nat_copy sta_copy ini_copy a1 S.1 hn1 hn2 hk1 hk2 hz1 hz2 g4.1 g4.2.1 g4.2.2.1 g4.2.2.2.1 g4.2.2.2.2 (Nat.le_of_ble_eq_true rfl) (Nat.le_of_ble_eq_true rfl) dJ7_copyOf_59c91_28 (fun V2 H locs eV2 w => ?_)
    refine lv_aload_n hx hb dJ7_copyOf_59c91_31 rfl (lv_at hl 0 rfl) ?_
    obtain ⟨rfl, rfl, rfl⟩ := retA h
    rw [eV] at eV2
    subst eS
    rw [eV2] at w
    refine W.widen (k := 1) (n := B) (Nat.le_of_ble_eq_true rfl) (by show 0 + a2.toNatClampNeg ≤ B; omega) ?_
    exact m_rn1 X w hr (Or.inr ⟨_, rfl⟩) hlocks dJ7_copyOf_59c91_32
  · replace h := ifT h c1
    obtain ⟨g1, h⟩ := cgi h
    have g1 := beq_iff_eq.mp g1
    obtain ⟨g3, h⟩ := cgi h
    have g3 := beq_iff_eq.mp g3
    obtain ⟨rfl, rfl, rfl⟩ := retA h
    refine lv_aload_n hx hb dJ7_copyOf_59c91_6 rfl (lv_at hl 0 rfl) ?_
    refine m_clone (rest := []) X hKc.2.2.2.2.2.2.2 w hl g3 a1 hs_a1.1 hs_a1.2 rfl (Nat.le_of_ble_eq_true rfl) (Nat.le_of_ble_eq_true rfl) (Nat.le_of_ble_eq_true rfl) (by show 0 + S.2.2.1 a1 ≤ B; omega) dJ7_copyOf_59c91_7 (fun S1 V1 H locs eS eV w => ?_)
    subst eS
    subst eV
    refine m_castI X w S.1 (Nat.lt_succ_self _) (va_up_self _ _ _) dJ7_copyOf_59c91_10 ?_
    refine W.widen (k := 1) (n := B) (Nat.le_of_ble_eq_true rfl) (by show 0 + S.2.2.1 a1 ≤ B; omega) ?_
    exact m_rn1 X w hr (Or.inr ⟨_, rfl⟩) hlocks dJ7_copyOf_59c91_13
