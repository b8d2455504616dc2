theorem oi_inst : Cond.instanceMethod objectInit ∈ gw := gw_p1 25 rfl rfl
theorem oi_code : Cond.code objectInit ⟨#[0xb1]⟩ 1 none ∈ gw := gw_p1 26 rfl rfl
theorem cn_link : Cond.methodLink RJ7 316 ⟨"[I", "clone", "()Ljava/lang/Object;"⟩ ∈ gw := gw_p3 117 rfl rfl
theorem cn_same : Cond.sameMethod "[I" "java/lang/Object" "clone" "()Ljava/lang/Object;" ∈ gw := gw_p3 118 rfl rfl
theorem cn_nat : Cond.native ⟨"java/lang/Object", "clone", "()Ljava/lang/Object;"⟩ ∈ gw := gw_p3 119 rfl rfl
theorem cn_inst : Cond.instanceMethod ⟨"java/lang/Object", "clone", "()Ljava/lang/Object;"⟩ ∈ gw := gw_p3 120 rfl rfl
theorem cn_sel : Cond.selects "[I" ⟨"[I", "clone", "()Ljava/lang/Object;"⟩ ⟨"java/lang/Object", "clone", "()Ljava/lang/Object;"⟩ ∈ gw := gw_p3 121 rfl rfl
theorem cn_cast : Cond.classLink RJ7 317 "[I" ∈ gw := gw_p3 123 rfl rfl
theorem ac_int : Cond.arrayClass .int ∈ gw := gw_p1 104 rfl rfl
theorem ac_long : Cond.arrayClass .long ∈ gw := gw_p2 50 rfl rfl
theorem ac_byte : Cond.arrayClass .byte ∈ gw := gw_p3 146 rfl rfl
theorem ac_boolean : Cond.arrayClass .boolean ∈ gw := gw_p5 116 rfl rfl
theorem in_0 : Cond.instantiable RX0 14 ∈ gw := gw_p1 28 rfl rfl
theorem ii_0 : Cond.initialized RX0 ∈ gw := gw_p1 2 rfl rfl
theorem dv_0 : ∀ j, j < 14 → defaultValue (tyX0 j) = if isR 0 j then .null else .int 0 := by
  intro j hj
  match j, hj with
  | 0, _ => rfl
  | 1, _ => rfl
  | 2, _ => rfl
  | 3, _ => rfl
  | 4, _ => rfl
  | 5, _ => rfl
  | 6, _ => rfl
  | 7, _ => rfl
  | 8, _ => rfl
  | 9, _ => rfl
  | 10, _ => rfl
  | 11, _ => rfl
  | 12, _ => rfl
  | 13, _ => rfl
  | n + 14, h => omega
theorem in_1 : Cond.instantiable RX1 2 ∈ gw := gw_p1 107 rfl rfl
theorem ii_1 : Cond.initialized RX1 ∈ gw := gw_p1 3 rfl rfl
theorem dv_1 : ∀ j, j < 2 → defaultValue (tyX1 j) = if isR 1 j then .null else .int 0 := by
  intro j hj
  match j, hj with
  | 0, _ => rfl
  | 1, _ => rfl
  | n + 2, h => omega
theorem in_2 : Cond.instantiable RX2 3 ∈ gw := gw_p1 217 rfl rfl
theorem ii_2 : Cond.initialized RX2 ∈ gw := gw_p1 8 rfl rfl
theorem dv_2 : ∀ j, j < 3 → defaultValue (tyX2 j) = if isR 2 j then .null else .int 0 := by
  intro j hj
  match j, hj with
  | 0, _ => rfl
  | 1, _ => rfl
  | 2, _ => rfl
  | n + 3, h => omega
theorem in_3 : Cond.instantiable RX3 5 ∈ gw := gw_p1 193 rfl rfl
theorem ii_3 : Cond.initialized RX3 ∈ gw := gw_p1 7 rfl rfl
theorem dv_3 : ∀ j, j < 5 → defaultValue (tyX3 j) = if isR 3 j then .null else .int 0 := by
  intro j hj
  match j, hj with
  | 0, _ => rfl
  | 1, _ => rfl
  | 2, _ => rfl
  | 3, _ => rfl
  | 4, _ => rfl
  | n + 5, h => omega
theorem in_4 : Cond.instantiable RX4 2 ∈ gw := gw_p1 165 rfl rfl
theorem ii_4 : Cond.initialized RX4 ∈ gw := gw_p1 5 rfl rfl
theorem dv_4 : ∀ j, j < 2 → defaultValue (tyX4 j) = if isR 4 j then .null else .int 0 := by
  intro j hj
  match j, hj with
  | 0, _ => rfl
  | 1, _ => rfl
  | n + 2, h => omega
theorem in_5 : Cond.instantiable RX5 12 ∈ gw := gw_p1 121 rfl rfl
theorem ii_5 : Cond.initialized RX5 ∈ gw := gw_p1 4 rfl rfl
theorem dv_5 : ∀ j, j < 12 → defaultValue (tyX5 j) = if isR 5 j then .null else .int 0 := by
  intro j hj
  match j, hj with
  | 0, _ => rfl
  | 1, _ => rfl
  | 2, _ => rfl
  | 3, _ => rfl
  | 4, _ => rfl
  | 5, _ => rfl
  | 6, _ => rfl
  | 7, _ => rfl
  | 8, _ => rfl
  | 9, _ => rfl
  | 10, _ => rfl
  | 11, _ => rfl
  | n + 12, h => omega
theorem in_6 : Cond.instantiable RX6 2 ∈ gw := gw_p1 178 rfl rfl
theorem ii_6 : Cond.initialized RX6 ∈ gw := gw_p1 6 rfl rfl
theorem dv_6 : ∀ j, j < 2 → defaultValue (tyX6 j) = if isR 6 j then .null else .int 0 := by
  intro j hj
  match j, hj with
  | 0, _ => rfl
  | 1, _ => rfl
  | n + 2, h => omega
theorem in_7 : Cond.instantiable RX7 3 ∈ gw := gw_p3 113 rfl rfl
theorem ii_7 : Cond.initialized RX7 ∈ gw := gw_p1 15 rfl rfl
theorem dv_7 : ∀ j, j < 3 → defaultValue (tyX7 j) = if isR 7 j then .null else .int 0 := by
  intro j hj
  match j, hj with
  | 0, _ => rfl
  | 1, _ => rfl
  | 2, _ => rfl
  | n + 3, h => omega
theorem in_8 : Cond.instantiable RX8 19 ∈ gw := gw_p1 20 rfl rfl
theorem ii_8 : Cond.initialized RX8 ∈ gw := gw_p1 1 rfl rfl
theorem dv_8 : ∀ j, j < 19 → defaultValue (tyX8 j) = if isR 8 j then .null else .int 0 := by
  intro j hj
  match j, hj with
  | 0, _ => rfl
  | 1, _ => rfl
  | 2, _ => rfl
  | 3, _ => rfl
  | 4, _ => rfl
  | 5, _ => rfl
  | 6, _ => rfl
  | 7, _ => rfl
  | 8, _ => rfl
  | 9, _ => rfl
  | 10, _ => rfl
  | 11, _ => rfl
  | 12, _ => rfl
  | 13, _ => rfl
  | 14, _ => rfl
  | 15, _ => rfl
  | 16, _ => rfl
  | 17, _ => rfl
  | 18, _ => rfl
  | n + 19, h => omega
theorem in_9 : Cond.instantiable RX9 50 ∈ gw := gw_p4 200 rfl rfl
theorem ii_9 : Cond.initialized RX9 ∈ gw := gw_p1 9 rfl rfl
theorem dv_9 : ∀ j, j < 50 → defaultValue (tyX9 j) = if isR 9 j then .null else .int 0 := by
  intro j hj
  match j, hj with
  | 0, _ => rfl
  | 1, _ => rfl
  | 2, _ => rfl
  | 3, _ => rfl
  | 4, _ => rfl
  | 5, _ => rfl
  | 6, _ => rfl
  | 7, _ => rfl
  | 8, _ => rfl
  | 9, _ => rfl
  | 10, _ => rfl
  | 11, _ => rfl
  | 12, _ => rfl
  | 13, _ => rfl
  | 14, _ => rfl
  | 15, _ => rfl
  | 16, _ => rfl
  | 17, _ => rfl
  | 18, _ => rfl
  | 19, _ => rfl
  | 20, _ => rfl
  | 21, _ => rfl
  | 22, _ => rfl
  | 23, _ => rfl
  | 24, _ => rfl
  | 25, _ => rfl
  | 26, _ => rfl
  | 27, _ => rfl
  | 28, _ => rfl
  | 29, _ => rfl
  | 30, _ => rfl
  | 31, _ => rfl
  | 32, _ => rfl
  | 33, _ => rfl
  | 34, _ => rfl
  | 35, _ => rfl
  | 36, _ => rfl
  | 37, _ => rfl
  | 38, _ => rfl
  | 39, _ => rfl
  | 40, _ => rfl
  | 41, _ => rfl
  | 42, _ => rfl
  | 43, _ => rfl
  | 44, _ => rfl
  | 45, _ => rfl
  | 46, _ => rfl
  | 47, _ => rfl
  | 48, _ => rfl
  | 49, _ => rfl
  | n + 50, h => omega
def MIi (C : String) (y : MethodName) (cc : ByteArray) (nL : Nat) (n : Nat) : Prop := Cond.code y cc nL none ∈ gw ∧ Cond.instanceMethod y ∈ gw ∧ Cond.initialized C ∈ gw ∧ y.cls = C ∧ y.name = "<init>" ∧ (y.cls ≠ "java/lang/invoke/MethodHandle" ∧ y.cls ≠ "java/lang/invoke/VarHandle" ∧ (parseMethodDescriptor y.desc).map (fun d => d.parameters.length) = some n)
theorem mi_X0_init : MIi RX0 yX0_init cX0_init 1 0 := ⟨gw_p1 31 rfl rfl, gw_p1 30 rfl rfl, ii_0, rfl, rfl, by decide +kernel, by decide +kernel, by decide +kernel⟩
theorem mi_X1_init : MIi RX1 yX1_init cX1_init 1 0 := ⟨gw_p1 110 rfl rfl, gw_p1 109 rfl rfl, ii_1, rfl, rfl, by decide +kernel, by decide +kernel, by decide +kernel⟩
theorem mi_X2_init : MIi RX2 yX2_init cX2_init 1 0 := ⟨gw_p1 220 rfl rfl, gw_p1 219 rfl rfl, ii_2, rfl, rfl, by decide +kernel, by decide +kernel, by decide +kernel⟩
theorem mi_X3_init : MIi RX3 yX3_init cX3_init 1 0 := ⟨gw_p1 196 rfl rfl, gw_p1 195 rfl rfl, ii_3, rfl, rfl, by decide +kernel, by decide +kernel, by decide +kernel⟩
theorem mi_X4_init : MIi RX4 yX4_init cX4_init 1 0 := ⟨gw_p1 168 rfl rfl, gw_p1 167 rfl rfl, ii_4, rfl, rfl, by decide +kernel, by decide +kernel, by decide +kernel⟩
theorem mi_X5_init : MIi RX5 yX5_init cX5_init 1 0 := ⟨gw_p1 124 rfl rfl, gw_p1 123 rfl rfl, ii_5, rfl, rfl, by decide +kernel, by decide +kernel, by decide +kernel⟩
theorem mi_X6_init : MIi RX6 yX6_init cX6_init 1 0 := ⟨gw_p1 181 rfl rfl, gw_p1 180 rfl rfl, ii_6, rfl, rfl, by decide +kernel, by decide +kernel, by decide +kernel⟩
theorem mi_X7_init : MIi RX7 yX7_init cX7_init 4 3 := ⟨gw_p3 130 rfl rfl, gw_p3 129 rfl rfl, ii_7, rfl, rfl, by decide +kernel, by decide +kernel, by decide +kernel⟩
theorem mi_X8_init : MIi RX8 yX8_init cX8_init 1 0 := ⟨gw_p1 23 rfl rfl, gw_p1 22 rfl rfl, ii_8, rfl, rfl, by decide +kernel, by decide +kernel, by decide +kernel⟩
theorem mi_X9_init : MIi RX9 yX9_init cX9_init 1 0 := ⟨gw_p4 203 rfl rfl, gw_p4 202 rfl rfl, ii_9, rfl, rfl, by decide +kernel, by decide +kernel, by decide +kernel⟩
section MA2
variable {p : Program} {l : Launch} {e : Env} {R : Room} {s : State} {m : MethodId} {args : Array Value} {below : List Frame} {meth : Method} {c : Code} {H : Heap} {locs : List Loc} {cells slots : Nat} {Q : State → Prop}
variable {cc : ByteArray} {pc : Nat} {ls : Array Slot} {rest st0 As : List Value} {own C : String} {nL : Nat} {D : va_G} {cy : Nat → ClassId} {ad : Nat → Nat} {A : Nat → Prop} {Kc : State → Prop} {aK aV : Nat → Nat} {S S' : St} {V V' : Vt}
variable {y : MethodName} {bytes : ByteArray} {maxL n mc ms index : Nat} {rm : Room} {Qc : Array Value → State → Outcome → State → Prop} {lv : List (Nat × Value)}
theorem m_oi (X : Fx p s m args c cc own nL D cy ad A Kc) (hl : lv_has ls nL lv) (hlink : Cond.methodLink own index objectInit ∈ gw) {a : Nat} (hframes : 1 ≤ R.frames) (hlocals : (rest.map fun v => v.category).sum + 12 ≤ R.locals) (hdg : decode cc pc = .ok (.invokespecial index, 3))
    (kk : W p l e R s m args below meth c H locs cells slots Q (F0 m (pc + 3) ls rest)) : W p l e R s m args below meth c H locs cells slots Q (F0 m pc ls (.ref a :: rest)) :=
  W.objInit X.1.1 X.1.2.1 X.2.1 (X.2.2.1 _ hlink) (X.2.2.1 _ oi_inst) (X.2.2.1 _ oi_code) rfl (hl.1.trans X.1.2.2.symm) rfl hdg hframes (by show 2 * 0 + _ + 12 ≤ _; omega) kk
theorem m_rI (X : Fx p s m args c cc own nL D cy ad A Kc) (w : Wd D cy ad A s.heap S V H locs) (hl : lv_has ls nL lv) (M : MIi C y bytes maxL n) (hlink : Cond.methodLink own index y ∈ gw) (b9 : Nat)
    (hM : Met l y (mw y bytes maxL none) rm (PreM D cy ad Kc S V (.ref b9 :: As)) Qc mc ms A) (hr : Rk R rm maxL cells slots mc ms) (hlen : As.length = n) (hst : st0 = As.reverse ++ .ref b9 :: rest) (hW : (rest.map fun v => v.category).sum ≤ 8) (hdg : decode cc pc = .ok (.invokespecial index, 3)) :
    va_Run p l e R s m args below meth c H locs cells slots mc ms (F0 m pc ls st0) rest (Qc (Value.ref b9 :: As).toArray) A := by
  obtain ⟨⟨hx, hb, hml⟩, ho, hts, hK, -, -, hT, hB⟩ := X
  obtain ⟨m1, m2, m3, m4, m5, m6⟩ := M
  obtain ⟨⟨r1, r2, r3, r4⟩, r5⟩ := hr
  subst hst
  have hG : GoodIn gw (mw y bytes maxL none) := gw_mw (fun _ h => h) m1
  exact va_runI (Ts := gw) (index := index) (n := n) ⟨hx, hb, hml, ho, hts⟩ hM ⟨callB_of n hts hG rfl r1 r2 (hts _ (by rw [m4]; exact m3)) (hts _ hlink) m6 ⟨r3, r4⟩, m5, hts _ m2⟩ ⟨PreM.blind hB, fun U hU hW => ⟨rfl, hK.warm hW, hT U H locs w.2 hU hW, by rw [hU]; exact w.1⟩⟩ rfl hlen hl.1 rfl (lv_room hW) hdg r5
theorem m_rIN {host : String} (X : Fx p s m args c cc own nL D cy ad A Kc) (w : Wd D cy ad A s.heap S V H locs) (hl : lv_has ls nL lv) (M : MIi C y bytes maxL n) (hlink : Cond.methodLinkNest own index y host ∈ nestW) (b9 : Nat)
    (hM : Met l y (mw y bytes maxL none) rm (PreM D cy ad Kc S V (.ref b9 :: As)) Qc mc ms A) (hr : Rk R rm maxL cells slots mc ms) (hlen : As.length = n) (hst : st0 = As.reverse ++ .ref b9 :: rest) (hW : (rest.map fun v => v.category).sum ≤ 8) (hdg : decode cc pc = .ok (.invokespecial index, 3)) :
    va_Run p l e R s m args below meth c H locs cells slots mc ms (F0 m pc ls st0) rest (Qc (Value.ref b9 :: As).toArray) A := by
  obtain ⟨⟨hx, hb, hml⟩, ho, hts, hK, -, -, hT, hB⟩ := X
  obtain ⟨m1, m2, m3, m4, m5, m6⟩ := M
  obtain ⟨⟨r1, r2, r3, r4⟩, r5⟩ := hr
  subst hst
  have hG : GoodIn gw (mw y bytes maxL none) := gw_mw (fun _ h => h) m1
  exact va_runIN (Ts := gw) (index := index) (n := n) ⟨hx, hb, hml, ho, hts⟩ hM ⟨va_cnB n hts hG rfl r1 r2 (hK.2 _ hlink) (hts _ (by rw [m4]; exact m3)) m6 ⟨r3, r4⟩, m5, hts _ m2⟩ ⟨PreM.blind hB, fun U hU hW => ⟨rfl, hK.warm hW, hT U H locs w.2 hU hW, by rw [hU]; exact w.1⟩⟩ rfl hlen hl.1 rfl (lv_room hW) hdg r5
theorem m_clone (X : Fx p s m args c cc RJ7 nL D cy ad A Kc) (hcast : va_Nw (.castable "[I" "java/lang/Cloneable") s) (w : Wd D cy ad A s.heap S V H locs) (hl : lv_has ls nL lv) (hz : ad S.1 = S.2.2.2.2) (h : Nat) (hn : h < S.1) (hk : S.2.1 h = 11) {n : Nat} (hzn : S.2.2.1 h = n)
    (hframes : 1 ≤ R.frames) (hlocals : (rest.map fun v => v.category).sum + 14 ≤ R.locals) (hcells : cells + 1 ≤ R.cells) (hslots : slots + n ≤ R.slots) (hdg : decode cc pc = .ok (.invokevirtual 316, 3))
    (kk : ∀ S' V' H' locs', S' = nwA S 11 n → V' = sC (zV V S.1) S.1 (V.2.1 h) → Wd D cy ad A s.heap S' V' H' locs' → W p l e R s m args below meth c H' locs' (cells + 1) (slots + n) Q (F0 m (pc + 3) ls (.ref (ad S.1) :: rest))) : W p l e R s m args below meth c H locs cells slots Q (F0 m pc ls (.ref (ad h) :: rest)) := by
  obtain ⟨⟨hx, hb, hml⟩, ho, hts, hK, hinj, hA, -⟩ := X
  have hsz0 : H.size = ad S.1 := by rw [hz]; exact w.1.1
  have hcell := (w.1.2 h hn).2 (by rw [hk]; rfl)
  rw [avI hk rfl rfl, hk, hzn] at hcell
  have hnm : s.vm.findClass "[I" = some (cy 11) := (hK.1.2 1 (cy 11, .int) rfl).2
  obtain ⟨c0, t0', f1, f2, f3⟩ := Cond.castable_spec (va_Nw.use (A := args) rfl hcast)
  cases hnm.symm.trans f1
  intro T hT X
  have hcellT : T.heap[ad h]? = some (arrV (cy 11) n (fun i => .int (V.2.1 h i))) := by rw [hT]; exact hcell
  obtain ⟨-, kA, hkA, comp, hkind⟩ := State.isArrayOf_alike X.warmed.alike ((hK.1.2 1 (cy 11, .int) rfl).1 0 (fun _ => .null))
  obtain ⟨-, kS, hkS, compS, hkindS⟩ := (hK.1.2 1 (cy 11, .int) rfl).1 0 (fun _ => .null)
  obtain ⟨vm', X', st⟩ := X.cloneArray hx ho (hts _ cn_link) (hts _ cn_same) (hts _ cn_nat) (hts _ cn_inst) (hts _ cn_sel) (a := ad h) (cell := arrV (cy 11) n (fun i => .int (V.2.1 h i))) hcellT (fun k h => by cases h) (fun h => by cases h) hnm f2 f3
    (fun i v hv => by
      have hk' : T.vm.classes[cy 11]? = some kA := hkA
      have hi : i < n := by have := (Array.getElem?_eq_some_iff.mp hv).1; rw [arrV_size] at this; exact this
      rw [arrV_read _ _ hi] at hv
      cases hv
      show T.fitsSlot (cy 11) .none i _ = true
      simp [State.fitsSlot, State.slotType?, hk', hkind, fits])
    (g := F0 m pc ls (.ref (ad h) :: rest)) rfl (by rw [hml]; exact hl.1) rfl (by rw [hb]; exact hdg) hframes (by show 2 * 0 + _ + 14 ≤ _; omega) hcells (by rw [arrV_size]; exact hslots) (hloader := Vm.clonesLoader_of_array hkS hkindS)
  have hcE : ({ cls := (arrV (cy 11) n (fun i => .int (V.2.1 h i))).cls, slots := (arrV (cy 11) n (fun i => .int (V.2.1 h i))).slots } : Cell) = arrV (cy 11) n (fun i => .int (V.2.1 h i)) := rfl
  rw [hcE, arrV_size] at X'
  generalize hH1 : H.push (arrV (cy 11) n (fun i => .int (V.2.1 h i))) = H1
  have z1 : H1.size = H.size + 1 := by rw [← hH1, Array.size_push]
  have e1 : H1[ad S.1]? = some (arrV (cy 11) n (fun i => .int (V.2.1 h i))) := by rw [← hsz0, ← hH1, Array.getElem?_push_size]
  have o1 : ∀ q : Nat, q < H.size → H1[q]? = H[q]? := fun q hq => by rw [← hH1, Array.getElem?_push, if_neg (Nat.ne_of_lt hq)]
  have hg : Gr S.1 S (nwA S 11 n) V (sC (zV V S.1) S.1 (V.2.1 h)) := fun g hg => ⟨va_up_ne _ _ hg, va_up_ne _ _ hg, rfl, va_up_ne _ _ hg, (by show va_up (va_up V.2.1 S.1 (fun _ => 0)) S.1 (V.2.1 h) g = _; rw [va_up_ne _ _ hg, va_up_ne _ _ hg]), va_up_ne _ _ hg, va_up_ne _ _ hg⟩
  obtain ⟨t, b1, b2⟩ := kk _ _ H1 locs rfl rfl ⟨w.1.grow rfl rfl hg z1 o1 ⟨fun r hr => (by
        have hk9 : (nwA S 11 n).2.1 S.1 = 11 := va_up_self _ _ _
        rw [hk9] at hr; cases hr), fun _ => (by
        have hk9 : (nwA S 11 n).2.1 S.1 = 11 := va_up_self _ _ _
        have hz9 : (nwA S 11 n).2.2.1 S.1 = n := va_up_self _ _ _
        rw [avI hk9 rfl rfl, hk9, hz9]
        have e9 : (sC (zV V S.1) S.1 (V.2.1 h)).2.1 S.1 = V.2.1 h := va_up_self _ _ _
        rw [e9]; exact e1)⟩, Nat.le_trans w.2.1 (by omega), fun x h1 h2 => (o1 x (Nat.lt_of_lt_of_le h1 w.2.1)).trans (w.2.2.1 x h1 h2), w.2.2.2⟩ ((T.setVm vm').pushCell (arrV (cy 11) n (fun i => .int (V.2.1 h i)))) (by rw [← hH1, ← hT]; rfl) X'
  refine ⟨t, st t ?_, b2⟩
  rw [hcE, hT, hsz0]
  exact b1
theorem m_castI (X : Fx p s m args c cc RJ7 nL D cy ad A Kc) (w : Wd D cy ad A s.heap S V H locs) (h : Nat) (hn : h < S.1) (hk : S.2.1 h = 11) (hdg : decode cc pc = .ok (.checkcast 317, 3))
    (kk : W p l e R s m args below meth c H locs cells slots Q (F0 m (pc + 3) ls (.ref (ad h) :: rest))) : W p l e R s m args below meth c H locs cells slots Q (F0 m pc ls (.ref (ad h) :: rest)) := by
  obtain ⟨⟨hx, hb, hml⟩, ho, hts, hK, hinj, hA, -⟩ := X
  have hcell := (w.1.2 h hn).2 (by rw [hk]; rfl)
  rw [hk] at hcell
  have hnm : s.vm.findClass "[I" = some (cy 11) := (hK.1.2 1 (cy 11, .int) rfl).2
  intro T hT X
  obtain ⟨vm', X', st⟩ := X.checkcastYes hx ho (hts _ cn_cast) (by rw [hT]; exact hcell) rfl hnm (va_asg _ _) (g := F0 m pc ls (.ref (ad h) :: rest)) rfl rfl (by rw [hb]; exact hdg)
  obtain ⟨t, a1, b1⟩ := kk (T.setVm vm') hT X'
  exact ⟨t, st t a1, b1⟩
end MA2
theorem na_int {cy : Nat → ClassId} {s : State} (h : va_RA s (cy 11) .int) : s.vm.findClass ("[" ++ FieldType.int.toString) = some (cy 11) := h
theorem na_byte {cy : Nat → ClassId} {s : State} (h : va_RA s (cy 10) .byte) : s.vm.findClass ("[" ++ FieldType.byte.toString) = some (cy 10) := h
theorem na_long {cy : Nat → ClassId} {s : State} (h : va_RA s (cy 12) .long) : s.vm.findClass ("[" ++ FieldType.long.toString) = some (cy 12) := h
theorem na_boolean {cy : Nat → ClassId} {s : State} (h : va_RA s (cy 13) .boolean) : s.vm.findClass ("[" ++ FieldType.boolean.toString) = some (cy 13) := h
theorem nv_int {ad : Nat → Nat} (S : St) (V : Vt) (h : Nat) (hk : S.2.1 h = 11) (e1 : V.2.1 h = (fun _ => 0)) (e2 : V.2.2.1 h = (fun _ => 0)) : av ad S V h = fun _ => defaultValue .int := by rw [avI hk rfl rfl, e1]; rfl
theorem nv_byte {ad : Nat → Nat} (S : St) (V : Vt) (h : Nat) (hk : S.2.1 h = 10) (e1 : V.2.1 h = (fun _ => 0)) (e2 : V.2.2.1 h = (fun _ => 0)) : av ad S V h = fun _ => defaultValue .byte := by rw [avI hk rfl rfl, e1]; rfl
theorem nv_boolean {ad : Nat → Nat} (S : St) (V : Vt) (h : Nat) (hk : S.2.1 h = 13) (e1 : V.2.1 h = (fun _ => 0)) (e2 : V.2.2.1 h = (fun _ => 0)) : av ad S V h = fun _ => defaultValue .boolean := by rw [avI hk rfl rfl, e1]; rfl
theorem nv_long {ad : Nat → Nat} (S : St) (V : Vt) (h : Nat) (hk : S.2.1 h = 12) (e1 : V.2.1 h = (fun _ => 0)) (e2 : V.2.2.1 h = (fun _ => 0)) : av ad S V h = fun _ => defaultValue .long := by rw [avJ hk, e2]; rfl
