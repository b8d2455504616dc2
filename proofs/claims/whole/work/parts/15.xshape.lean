def t0 : Tb := [(0, 0, [2, 3, 4, 5, 6, 7, 8, 9, 10, 0, 0, 0, 0, 0]), (11, 25, []), (11, 25, []), (11, 10, []), (11, 5, []), (11, 5, []), (11, 3, []), (15, 6, []), (11, 24, []), (11, 30, [])]
def t1 : Tb := [(1, 0, [2, 0]), (11, 80, [])]
def t2 : Tb := [(2, 0, [2, 3, 4]), (11, 10, []), (11, 1024, []), (11, 1024, [])]
def t3 : Tb := [(3, 0, [2, 6, 7, 8, 9]), (6, 0, [3, 5]), (4, 0, [4, 0]), (11, 40, []), (11, 10, []), (11, 26, []), (11, 25, []), (11, 26, []), (11, 150, [])]
def t4 : Tb := [(4, 0, [2, 0]), (11, 40, [])]
def t5 : Tb := [(5, 0, [2, 3, 4, 5, 0, 0, 0, 0, 0, 0, 0, 0]), (11, 400, []), (11, 400, []), (11, 448, []), (11, 72, [])]
def t6 : Tb := [(6, 0, [2, 4]), (4, 0, [3, 0]), (11, 40, []), (11, 10, [])]
def t8 : Tb := [(8, 0, [2, 12, 13, 23, 33, 35, 37, 38, 43, 45, 49, 58, 62, 63, 64, 0, 0, 0, 0]), (0, 0, [3, 4, 5, 6, 7, 8, 9, 10, 11, 0, 0, 0, 0, 0]), (11, 25, []), (11, 25, []), (11, 10, []), (11, 5, []), (11, 5, []), (11, 3, []), (15, 6, []), (11, 24, []), (11, 30, []), (14, 2, []), (0, 0, [14, 15, 16, 17, 18, 19, 20, 21, 22, 0, 0, 0, 0, 0]), (11, 25, []), (11, 25, []), (11, 10, []), (11, 5, []), (11, 5, []), (11, 3, []), (15, 6, []), (11, 24, []), (11, 30, []), (0, 0, [24, 25, 26, 27, 28, 29, 30, 31, 32, 0, 0, 0, 0, 0]), (11, 25, []), (11, 25, []), (11, 10, []), (11, 5, []), (11, 5, []), (11, 3, []), (15, 6, []), (11, 24, []), (11, 30, []), (1, 0, [34, 0]), (11, 80, []), (1, 0, [36, 0]), (11, 80, []), (11, 400, []), (5, 0, [39, 40, 41, 42, 0, 0, 0, 0, 0, 0, 0, 0]), (11, 400, []), (11, 400, []), (11, 448, []), (11, 72, []), (4, 0, [44, 0]), (11, 40, []), (6, 0, [46, 48]), (4, 0, [47, 0]), (11, 40, []), (11, 10, []), (3, 0, [50, 54, 55, 56, 57]), (6, 0, [51, 53]), (4, 0, [52, 0]), (11, 40, []), (11, 10, []), (11, 26, []), (11, 25, []), (11, 26, []), (11, 150, []), (2, 0, [59, 60, 61]), (11, 10, []), (11, 1024, []), (11, 1024, []), (11, 43, []), (12, 20, []), (11, 5, [])]
theorem sb_3_1 {S : St} {o : Nat} (h : shp S o t3) : shp S (o + 1) t6 := shp_sub h 1 4 rfl rfl
theorem sb_3_2 {S : St} {o : Nat} (h : shp S o t3) : shp S (o + 2) t4 := shp_sub h 2 2 rfl rfl
theorem sb_6_1 {S : St} {o : Nat} (h : shp S o t6) : shp S (o + 1) t4 := shp_sub h 1 2 rfl rfl
theorem sb_8_1 {S : St} {o : Nat} (h : shp S o t8) : shp S (o + 1) t0 := shp_sub h 1 10 rfl rfl
theorem sb_8_12 {S : St} {o : Nat} (h : shp S o t8) : shp S (o + 12) t0 := shp_sub h 12 10 rfl rfl
theorem sb_8_22 {S : St} {o : Nat} (h : shp S o t8) : shp S (o + 22) t0 := shp_sub h 22 10 rfl rfl
theorem sb_8_32 {S : St} {o : Nat} (h : shp S o t8) : shp S (o + 32) t1 := shp_sub h 32 2 rfl rfl
theorem sb_8_34 {S : St} {o : Nat} (h : shp S o t8) : shp S (o + 34) t1 := shp_sub h 34 2 rfl rfl
theorem sb_8_37 {S : St} {o : Nat} (h : shp S o t8) : shp S (o + 37) t5 := shp_sub h 37 5 rfl rfl
theorem sb_8_42 {S : St} {o : Nat} (h : shp S o t8) : shp S (o + 42) t4 := shp_sub h 42 2 rfl rfl
theorem sb_8_44 {S : St} {o : Nat} (h : shp S o t8) : shp S (o + 44) t6 := shp_sub h 44 4 rfl rfl
theorem sb_8_45 {S : St} {o : Nat} (h : shp S o t8) : shp S (o + 45) t4 := shp_sub h 45 2 rfl rfl
theorem sb_8_48 {S : St} {o : Nat} (h : shp S o t8) : shp S (o + 48) t3 := shp_sub h 48 9 rfl rfl
theorem sb_8_49 {S : St} {o : Nat} (h : shp S o t8) : shp S (o + 49) t6 := shp_sub h 49 4 rfl rfl
theorem sb_8_50 {S : St} {o : Nat} (h : shp S o t8) : shp S (o + 50) t4 := shp_sub h 50 2 rfl rfl
theorem sb_8_57 {S : St} {o : Nat} (h : shp S o t8) : shp S (o + 57) t2 := shp_sub h 57 4 rfl rfl
theorem ct_goF {l : Launch} {D : va_G} {cy : Nat → ClassId} {ad : Nat → Nat} {A : Nat → Prop} {Kc : State → Prop} (C : Cx ad A Kc) {y : MethodName} {cc : ByteArray} {nL : Nat} {ret : Option FieldType} {rm : Room} {S : St} {V : Vt} {avs : List Value} {Qc : Array Value → State → Outcome → State → Prop} {mc ms : Nat} {own : String}
    (ho : y.cls = own) (hy : plainFor y = true) (hlen : Nat.ble (lg_sl avs).length nL = true)
    (body : ∀ p e s m below meth c ls H locs, Fx p s m avs.toArray c cc own nL D cy ad A Kc → meth.sig.returnType = ret → meth.locks = false → meth.name = y.name → lv_has ls nL (lv_args 0 avs) → Wd D cy ad A s.heap S V H locs →
      W p l e rm s m avs.toArray below meth c H locs 0 0 (MQ below Qc avs.toArray s mc ms A) (F0 m 0 ls [])) : Met l y (mw y cc nL ret) rm (PreM D cy ad Kc S V avs) Qc mc ms A := by
  subst ho
  refine va_MetF (cc := cc) (maxL := nL) (ret := ret) hy rfl ?_
  intro p e s m args below meth c s₁ B hml hv
  obtain ⟨rfl, hK, hKc, hM⟩ := hv
  have hl := lv_entry avs (n := nL) (Nat.le_of_ble_eq_true hlen)
  rw [lg_entry_eq]
  exact body p e s m below meth c _ s.heap [] ⟨⟨B.exec, B.bytes, hml⟩, findClass_of_methodNamed B.named, fun w hw => atoms_spec (ws := mw y cc nL ret) B.pre w (List.mem_cons_of_mem _ hw), hK, C.1, C.2.1, C.2.2.1 s hKc, C.2.2.2⟩ B.returns B.notSynchronized (name_of_methodNamed B.named B.method).1 hl ⟨hM, va_S.rf⟩
def cpB (sp dp n : Int32) (n0 n1 : Nat) : Bool := decide (¬ sp < 0 ∧ ¬ dp < 0 ∧ ¬ n < 0 ∧ sp.toNatClampNeg + n.toNatClampNeg ≤ n0 ∧ dp.toNatClampNeg + n.toNatClampNeg ≤ n1)
theorem cpB_of {sp dp n : Int32} {n0 n1 : Nat} (h : cpB sp dp n n0 n1 = true) : ¬ sp < 0 ∧ ¬ dp < 0 ∧ ¬ n < 0 ∧ sp.toNatClampNeg + n.toNatClampNeg ≤ n0 ∧ dp.toNatClampNeg + n.toNatClampNeg ≤ n1 := of_decide_eq_true h
theorem mmax_co : Cond.code Lib.Math.max.name Lib.Math.max.code 2 (some .int) ∈ gw := gw_p2 135 rfl rfl
theorem mmax_st : Cond.static Lib.Math.max.name ∈ gw := gw_p2 134 rfl rfl
theorem mmin_co : Cond.code Lib.Math.min.name Lib.Math.min.code 2 (some .int) ∈ gw := gw_p2 132 rfl rfl
theorem mmin_st : Cond.static Lib.Math.min.name ∈ gw := gw_p2 131 rfl rfl
theorem mth_in : Cond.initialized "java/lang/Math" ∈ gw := gw_p1 10 rfl rfl
def mxI (x y : Int32) : Int32 := if x < y then y else x
def mnI (x y : Int32) : Int32 := if y < x then y else x
section MM9
variable {p : Program} {l : Launch} {e : Env} {R : Room} {s : State} {m : MethodId} {args : Array Value} {below : List Frame} {meth : Method} {c : Code} {H : Heap} {locs : List Loc} {cells slots : Nat} {Q : State → Prop}
variable {cc : ByteArray} {pc : Nat} {ls : Array Slot} {rest : List Value} {own : String} {nL index : Nat} {D : va_G} {cy : Nat → ClassId} {ad : Nat → Nat} {A : Nat → Prop} {Kc : State → Prop} {lv : List (Nat × Value)}
theorem m_max (X : Fx p s m args c cc own nL D cy ad A Kc) (hl : lv_has ls nL lv) (hlink : Cond.methodLink own index Lib.Math.max.name ∈ gw) (hframes : 1 ≤ R.frames) (hlocals : (rest.map fun v => v.category).sum + 13 ≤ R.locals) (hc : cells ≤ R.cells) (hs : slots ≤ R.slots) {x y : Int32} (hdg : decode cc pc = .ok (.invokestatic index, 3))
    (kk : W p l e R s m args below meth c H locs cells slots Q (F0 m (pc + 3) ls (.int (mxI x y) :: rest))) : W p l e R s m args below meth c H locs cells slots Q (F0 m pc ls (.int y :: .int x :: rest)) :=
  va_mmax X.1.1 X.1.2.1 (X.1.2.2.trans hl.1.symm) X.2.1 (X.2.2.1 _ hlink) (X.2.2.1 _ mmax_st) (X.2.2.1 _ mth_in) (X.2.2.1 _ mmax_co) hframes hlocals hc hs hdg kk
theorem m_min (X : Fx p s m args c cc own nL D cy ad A Kc) (hl : lv_has ls nL lv) (hlink : Cond.methodLink own index Lib.Math.min.name ∈ gw) (hframes : 1 ≤ R.frames) (hlocals : (rest.map fun v => v.category).sum + 13 ≤ R.locals) (hc : cells ≤ R.cells) (hs : slots ≤ R.slots) {x y : Int32} (hdg : decode cc pc = .ok (.invokestatic index, 3))
    (kk : W p l e R s m args below meth c H locs cells slots Q (F0 m (pc + 3) ls (.int (mnI x y) :: rest))) : W p l e R s m args below meth c H locs cells slots Q (F0 m pc ls (.int y :: .int x :: rest)) :=
  va_mmin X.1.1 X.1.2.1 (X.1.2.2.trans hl.1.symm) X.2.1 (X.2.2.1 _ hlink) (X.2.2.1 _ mmin_st) (X.2.2.1 _ mth_in) (X.2.2.1 _ mmin_co) hframes hlocals hc hs hdg kk
end MM9
theorem nat_copy : Cond.native arraycopyName ∈ gw := gw_p3 127 rfl rfl
theorem sta_copy : Cond.static arraycopyName ∈ gw := gw_p3 126 rfl rfl
theorem ini_copy : Cond.initialized "java/lang/System" ∈ gw := gw_p1 17 rfl rfl
