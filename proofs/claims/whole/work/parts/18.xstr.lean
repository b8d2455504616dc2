def kTx : List (String × Nat × String) := [("LedgerHounds$Reader", 84, "leads takes bites bars"), ("LedgerHounds$Reader", 162, "["), ("LedgerHounds$Reader", 164, "]"), ("LedgerHounds$Reader", 166, "cell row column entry off across clerk keen day mood"), ("LedgerHounds$Reader", 168, "day done latest entry off across hand"), ("LedgerHounds$Reader", 160, "* / %"), ("LedgerHounds$Reader", 155, "+ -"), ("LedgerHounds$Reader", 126, "if"), ("LedgerHounds$Reader", 144, "not"), ("LedgerHounds$Reader", 146, "("), ("LedgerHounds$Reader", 148, ")"), ("LedgerHounds$Reader", 150, "< > ="), ("LedgerHounds$Reader", 142, "and"), ("LedgerHounds$Reader", 134, "or"), ("LedgerHounds$Reader", 101, "take shift fence pass"), ("LedgerHounds$Reader", 103, "by"), ("LedgerHounds$Reader", 105, "to"), ("LedgerHounds$Reader", 107, "of"), ("LedgerHounds$Reader", 121, "times"), ("LedgerHounds$Reader", 75, ";")]
def kLen : List Nat := [22, 1, 1, 52, 37, 5, 3, 2, 3, 1, 1, 5, 3, 2, 21, 2, 2, 2, 5, 1]
def kByt : List (List Int32) := [[108, 101, 97, 100, 115, 32, 116, 97, 107, 101, 115, 32, 98, 105, 116, 101, 115, 32, 98, 97, 114, 115], [91], [93], [99, 101, 108, 108, 32, 114, 111, 119, 32, 99, 111, 108, 117, 109, 110, 32, 101, 110, 116, 114, 121, 32, 111, 102, 102, 32, 97, 99, 114, 111, 115, 115, 32, 99, 108, 101, 114, 107, 32, 107, 101, 101, 110, 32, 100, 97, 121, 32, 109, 111, 111, 100], [100, 97, 121, 32, 100, 111, 110, 101, 32, 108, 97, 116, 101, 115, 116, 32, 101, 110, 116, 114, 121, 32, 111, 102, 102, 32, 97, 99, 114, 111, 115, 115, 32, 104, 97, 110, 100], [42, 32, 47, 32, 37], [43, 32, 45], [105, 102], [110, 111, 116], [40], [41], [60, 32, 62, 32, 61], [97, 110, 100], [111, 114], [116, 97, 107, 101, 32, 115, 104, 105, 102, 116, 32, 102, 101, 110, 99, 101, 32, 112, 97, 115, 115], [98, 121], [116, 111], [111, 102], [116, 105, 109, 101, 115], [59]]
def tMost : List Int32 := [999, 10, 9]
/-- what lies outside and is only read: the literals, two statics, a static row -/
def KX (A : Nat → Prop) (aK aV : Nat → Nat) (U : State) : Prop :=
  vk_S 20 kLen kByt aK aV A U U.heap ∧ (∀ i x, kTx[i]? = some x → vk_R x.1 x.2.1 x.2.2 (aK i) U) ∧ va_Z "java/lang/String" "COMPACT_STRINGS" "Z" (.int 1) A U U.heap ∧ va_Zq "jdk/internal/util/Preconditions" "SIOOBE_FORMATTER" "Ljava/util/function/BiFunction;" A U U.heap ∧ (∃ t : Nat, va_Z "LedgerHounds" "MOST_OF_TERM" "[I" (.ref t) A U U.heap ∧ va_T .int t 3 (fun j => .int (tMost.getD j 0)) A U U.heap) ∧ va_AO "LedgerHounds$Book" U ∧ va_AO "LedgerHounds$Text" U ∧ va_Nw (.castable "[I" "java/lang/Cloneable") U
theorem KX.go {A : Nat → Prop} {aK aV : Nat → Nat} {s : State} (h : KX A aK aV s) (U : State) (H : Heap) (locs : List Loc) (hS : va_S A s.heap H locs) (hU : U.heap = H) (hW : s.WarmedH U.vm) : KX A aK aV U := by
  obtain ⟨h1, h2, h3, h4, ⟨t, h5, h6⟩, h7, h8, h9⟩ := h
  have hq : ∀ a : Nat, a < s.heap.size → ¬ A a → U.heap[a]? = s.heap[a]? := by rw [hU]; exact hS.2.1
  exact ⟨(h1.moved hW.alike).kept hq, fun i x hx => (h2 i x hx).warm hW, (h3.moved hW.alike).kept hq, (h4.moved hW.alike).kept hq, ⟨t, (h5.moved hW.alike).kept hq, (h6.moved hW.alike).kept hq⟩, h7.moved hW.alike, h8.moved hW.alike, h9.warmC hW⟩
theorem KX.blind {A : Nat → Prop} {aK aV : Nat → Nat} (a : Array Value) (U : State) (g : JFrame) (mk : MethodId) (h : KX A aK aV U) : KX A aK aV (U.calling g mk a) := by
  obtain ⟨h1, h2, h3, h4, ⟨t, h5, h6⟩, h7, h8, h9⟩ := h
  have hv : U.vm.Alike (U.calling g mk a).vm := Vm.Alike.refl U.vm
  exact ⟨h1.moved hv, fun i x hx => (h2 i x hx).same rfl, h3.moved hv, h4.moved hv, ⟨t, h5.moved hv, h6.moved hv⟩, h7.moved hv, h8.moved hv, va_Nw.same rfl rfl h9⟩
theorem cxX {ad : Nat → Nat} {A : Nat → Prop} {aK aV : Nat → Nat} (h1 : ∀ a b, ad a = ad b → a = b) (h2 : ∀ h, A (ad h)) : Cx ad A (KX A aK aV) := ⟨h1, h2, fun _ h U H locs hS hU hW => h.go U H locs hS hU hW, fun a U g mk h => KX.blind a U g mk h⟩
theorem ct_goK {l : Launch} {D : va_G} {cy : Nat → ClassId} {ad : Nat → Nat} {A : Nat → Prop} {Kc : State → Prop} (C : Cx ad A Kc) {y : MethodName} {cc : ByteArray} {nL : Nat} {ret : Option FieldType} {rm : Room} {S : St} {V : Vt} {avs : List Value} {Qc : Array Value → State → Outcome → State → Prop} {mc ms : Nat} {own : String}
    (ho : y.cls = own) (hy : plainName y.cls = true) (hlen : Nat.ble (lg_sl avs).length nL = true)
    (body : ∀ p e s m below meth c ls H locs, Kc s → Fx p s m avs.toArray c cc own nL D cy ad A Kc → meth.sig.returnType = ret → meth.locks = false → meth.name = y.name → lv_has ls nL (lv_args 0 avs) → Wd D cy ad A s.heap S V H locs →
      W p l e rm s m avs.toArray below meth c H locs 0 0 (MQ below Qc avs.toArray s mc ms A) (F0 m 0 ls [])) : Met l y (mw y cc nL ret) rm (PreM D cy ad Kc S V avs) Qc mc ms A := by
  subst ho
  refine Met.ofW (cc := cc) (maxL := nL) (ret := ret) hy rfl ?_
  intro p e s m args below meth c s₁ B hml hv
  obtain ⟨rfl, hK, hKc, hM⟩ := hv
  have hl := lv_entry avs (n := nL) (Nat.le_of_ble_eq_true hlen)
  rw [lg_entry_eq]
  exact body p e s m below meth c _ s.heap [] hKc ⟨⟨B.exec, B.bytes, hml⟩, findClass_of_methodNamed B.named, fun w hw => atoms_spec (ws := mw y cc nL ret) B.pre w (List.mem_cons_of_mem _ hw), hK, C.1, C.2.1, C.2.2.1 s hKc, C.2.2.2⟩ B.returns B.notSynchronized (name_of_methodNamed B.named B.method).1 hl ⟨hM, va_S.rf⟩
theorem ct_goFK {l : Launch} {D : va_G} {cy : Nat → ClassId} {ad : Nat → Nat} {A : Nat → Prop} {Kc : State → Prop} (C : Cx ad A Kc) {y : MethodName} {cc : ByteArray} {nL : Nat} {ret : Option FieldType} {rm : Room} {S : St} {V : Vt} {avs : List Value} {Qc : Array Value → State → Outcome → State → Prop} {mc ms : Nat} {own : String}
    (ho : y.cls = own) (hy : plainFor y = true) (hlen : Nat.ble (lg_sl avs).length nL = true)
    (body : ∀ p e s m below meth c ls H locs, Kc s → Fx p s m avs.toArray c cc own nL D cy ad A Kc → meth.sig.returnType = ret → meth.locks = false → meth.name = y.name → lv_has ls nL (lv_args 0 avs) → Wd D cy ad A s.heap S V H locs →
      W p l e rm s m avs.toArray below meth c H locs 0 0 (MQ below Qc avs.toArray s mc ms A) (F0 m 0 ls [])) : Met l y (mw y cc nL ret) rm (PreM D cy ad Kc S V avs) Qc mc ms A := by
  subst ho
  refine va_MetF (cc := cc) (maxL := nL) (ret := ret) hy rfl ?_
  intro p e s m args below meth c s₁ B hml hv
  obtain ⟨rfl, hK, hKc, hM⟩ := hv
  have hl := lv_entry avs (n := nL) (Nat.le_of_ble_eq_true hlen)
  rw [lg_entry_eq]
  exact body p e s m below meth c _ s.heap [] hKc ⟨⟨B.exec, B.bytes, hml⟩, findClass_of_methodNamed B.named, fun w hw => atoms_spec (ws := mw y cc nL ret) B.pre w (List.mem_cons_of_mem _ hw), hK, C.1, C.2.1, C.2.2.1 s hKc, C.2.2.2⟩ B.returns B.notSynchronized (name_of_methodNamed B.named B.method).1 hl ⟨hM, va_S.rf⟩
def cch {α : Type} (x : Int32) (k : Option α) : Option α := if (x.toUInt32 % 65536).toInt32 = x then k else none
theorem cchi {α : Type} {x : Int32} {k : Option α} {r : α} (h : cch x k = some r) : narrow .char (.int x) = .int x ∧ k = some r := by
  unfold cch at h
  split at h
  · rename_i hx
    exact ⟨by rw [← hx]; exact pk_nc x, h⟩
  · cases h
section MSTR
variable {p : Program} {l : Launch} {e : Env} {R : Room} {s : State} {m : MethodId} {args : Array Value} {below : List Frame} {meth : Method} {c : Code} {H : Heap} {locs : List Loc} {cells slots : Nat} {Q : State → Prop}
variable {cc : ByteArray} {pc : Nat} {ls : Array Slot} {rest st0 As : List Value} {own C : String} {nL : Nat} {D : va_G} {cy : Nat → ClassId} {ad : Nat → Nat} {A : Nat → Prop} {aK aV : Nat → Nat} {S S' : St} {V V' : Vt}
variable {y : MethodName} {bytes : ByteArray} {maxL n mc ms index : Nat} {ret : Option FieldType} {rm : Room} {Qc : Array Value → State → Outcome → State → Prop} {lv : List (Nat × Value)}
/-- a call on a literal -/
theorem m_rZ (X : Fx p s m args c cc own nL D cy ad A (KX A aK aV)) (hKc : KX A aK aV s) (w : Wd D cy ad A s.heap S V H locs) (hl : lv_has ls nL lv) (M : MIv C y bytes maxL ret n) (hC : C = "java/lang/String") (hlink : Cond.methodLink own index y ∈ gw) (i : Nat) (hi : i < 20)
    (hM : Met l y (mw y bytes maxL ret) rm (PreM D cy ad (KX A aK aV) S V (.ref (aK i) :: As)) Qc mc ms A) (hr : Rk R rm maxL cells slots mc ms) (hlen : As.length = n) (hst : st0 = As.reverse ++ .ref (aK i) :: rest) (hW : (rest.map fun v => v.category).sum ≤ 8) (hdg : decode cc pc = .ok (.invokevirtual index, 3)) :
    va_Run p l e R s m args below meth c H locs cells slots mc ms (F0 m pc ls st0) rest (Qc (Value.ref (aK i) :: As).toArray) A := by
  subst hC
  obtain ⟨⟨hx, hb, hml⟩, ho, hts, hK, -, -, hT, hB⟩ := X
  obtain ⟨m1, m2, m3, m4, m5, m6⟩ := M
  obtain ⟨⟨r1, r2, r3, r4⟩, r5⟩ := hr
  subst hst
  refine va_runV (Ts := gw) (C := "java/lang/String") (index := index) (n := n) ⟨hx, hb, hml, ho, hts⟩ hM (cwV n hts (goodIn_sub' (fun w hw => ?_)) rfl r1 r2 ⟨m5, m6⟩ ⟨r3, r4⟩) ⟨PreM.blind hB, vk_recv hKc.1 hi w.2, fun U hU hW => ⟨rfl, hK.warm hW, hT U H locs w.2 hU hW, by rw [hU]; exact w.1⟩⟩ rfl hlen hl.1 rfl (lv_room hW) hdg r5
  rcases List.mem_append.mp hw with hw | hw
  · simp only [List.mem_cons, List.not_mem_nil, or_false] at hw
    rcases hw with rfl | rfl | rfl | rfl <;> assumption
  · rcases List.mem_cons.mp hw with rfl | hw
    · exact m1
    · exact hw
end MSTR
theorem zq_any {C n d : String} {A : Nat → Prop} {U : State} {H : Heap} (h : va_Zq C n d A U H) : ∃ v, (v = Value.null ∨ ∃ t, v = .ref t) ∧ va_Z C n d v A U H := by
  rcases h with q | ⟨t, q⟩
  · exact ⟨_, Or.inl rfl, q⟩
  · exact ⟨_, Or.inr ⟨t, rfl⟩, q⟩
theorem ks_0 {A : Nat → Prop} {aK aV : Nat → Nat} {s : State} (h : KX A aK aV s) : vk_R RX5 84 "leads takes bites bars" (aK 0) s := h.2.1 0 ("LedgerHounds$Reader", 84, "leads takes bites bars") rfl
theorem ks_1 {A : Nat → Prop} {aK aV : Nat → Nat} {s : State} (h : KX A aK aV s) : vk_R RX5 162 "[" (aK 1) s := h.2.1 1 ("LedgerHounds$Reader", 162, "[") rfl
theorem ks_2 {A : Nat → Prop} {aK aV : Nat → Nat} {s : State} (h : KX A aK aV s) : vk_R RX5 164 "]" (aK 2) s := h.2.1 2 ("LedgerHounds$Reader", 164, "]") rfl
theorem ks_3 {A : Nat → Prop} {aK aV : Nat → Nat} {s : State} (h : KX A aK aV s) : vk_R RX5 166 "cell row column entry off across clerk keen day mood" (aK 3) s := h.2.1 3 ("LedgerHounds$Reader", 166, "cell row column entry off across clerk keen day mood") rfl
theorem ks_4 {A : Nat → Prop} {aK aV : Nat → Nat} {s : State} (h : KX A aK aV s) : vk_R RX5 168 "day done latest entry off across hand" (aK 4) s := h.2.1 4 ("LedgerHounds$Reader", 168, "day done latest entry off across hand") rfl
theorem ks_5 {A : Nat → Prop} {aK aV : Nat → Nat} {s : State} (h : KX A aK aV s) : vk_R RX5 160 "* / %" (aK 5) s := h.2.1 5 ("LedgerHounds$Reader", 160, "* / %") rfl
theorem ks_6 {A : Nat → Prop} {aK aV : Nat → Nat} {s : State} (h : KX A aK aV s) : vk_R RX5 155 "+ -" (aK 6) s := h.2.1 6 ("LedgerHounds$Reader", 155, "+ -") rfl
theorem ks_7 {A : Nat → Prop} {aK aV : Nat → Nat} {s : State} (h : KX A aK aV s) : vk_R RX5 126 "if" (aK 7) s := h.2.1 7 ("LedgerHounds$Reader", 126, "if") rfl
theorem ks_8 {A : Nat → Prop} {aK aV : Nat → Nat} {s : State} (h : KX A aK aV s) : vk_R RX5 144 "not" (aK 8) s := h.2.1 8 ("LedgerHounds$Reader", 144, "not") rfl
theorem ks_9 {A : Nat → Prop} {aK aV : Nat → Nat} {s : State} (h : KX A aK aV s) : vk_R RX5 146 "(" (aK 9) s := h.2.1 9 ("LedgerHounds$Reader", 146, "(") rfl
theorem ks_10 {A : Nat → Prop} {aK aV : Nat → Nat} {s : State} (h : KX A aK aV s) : vk_R RX5 148 ")" (aK 10) s := h.2.1 10 ("LedgerHounds$Reader", 148, ")") rfl
theorem ks_11 {A : Nat → Prop} {aK aV : Nat → Nat} {s : State} (h : KX A aK aV s) : vk_R RX5 150 "< > =" (aK 11) s := h.2.1 11 ("LedgerHounds$Reader", 150, "< > =") rfl
theorem ks_12 {A : Nat → Prop} {aK aV : Nat → Nat} {s : State} (h : KX A aK aV s) : vk_R RX5 142 "and" (aK 12) s := h.2.1 12 ("LedgerHounds$Reader", 142, "and") rfl
theorem ks_13 {A : Nat → Prop} {aK aV : Nat → Nat} {s : State} (h : KX A aK aV s) : vk_R RX5 134 "or" (aK 13) s := h.2.1 13 ("LedgerHounds$Reader", 134, "or") rfl
theorem ks_14 {A : Nat → Prop} {aK aV : Nat → Nat} {s : State} (h : KX A aK aV s) : vk_R RX5 101 "take shift fence pass" (aK 14) s := h.2.1 14 ("LedgerHounds$Reader", 101, "take shift fence pass") rfl
theorem ks_15 {A : Nat → Prop} {aK aV : Nat → Nat} {s : State} (h : KX A aK aV s) : vk_R RX5 103 "by" (aK 15) s := h.2.1 15 ("LedgerHounds$Reader", 103, "by") rfl
theorem ks_16 {A : Nat → Prop} {aK aV : Nat → Nat} {s : State} (h : KX A aK aV s) : vk_R RX5 105 "to" (aK 16) s := h.2.1 16 ("LedgerHounds$Reader", 105, "to") rfl
theorem ks_17 {A : Nat → Prop} {aK aV : Nat → Nat} {s : State} (h : KX A aK aV s) : vk_R RX5 107 "of" (aK 17) s := h.2.1 17 ("LedgerHounds$Reader", 107, "of") rfl
theorem ks_18 {A : Nat → Prop} {aK aV : Nat → Nat} {s : State} (h : KX A aK aV s) : vk_R RX5 121 "times" (aK 18) s := h.2.1 18 ("LedgerHounds$Reader", 121, "times") rfl
theorem ks_19 {A : Nat → Prop} {aK aV : Nat → Nat} {s : State} (h : KX A aK aV s) : vk_R RX5 75 ";" (aK 19) s := h.2.1 19 ("LedgerHounds$Reader", 75, ";") rfl
