/-! CONTRACTS over the memory by handles, calls, and the words of the functions that the walks follow -/
def bd {α β : Type} (x : α) (k : α → β) : β := k x
theorem bdi {α β : Type} {e : α} {k : α → β} {r : β} (h : bd e k = r) (x : α) (hx : x = e) : k x = r := by subst hx; exact h
theorem ifT {α : Type} {c : Prop} [Decidable c] {a b r : α} (h : (if c then a else b) = r) (hc : c) : a = r := by rw [if_pos hc] at h; exact h
theorem ifF {α : Type} {c : Prop} [Decidable c] {a b r : α} (h : (if c then a else b) = r) (hc : ¬ c) : b = r := by rw [if_neg hc] at h; exact h
def inb (i : Int32) (n : Nat) : Bool := decide (¬ (i < 0)) && decide (i.toNatClampNeg < n)
def ck {α : Type} (i : Int32) (n : Nat) (k : Option α) : Option α := if inb i n = true then k else none
theorem cki {α : Type} {i : Int32} {n : Nat} {k : Option α} {r : α} (h : ck i n k = some r) : vp_in i n ∧ k = some r := by
  unfold ck at h
  split at h
  · rename_i hi
    simp only [inb, Bool.and_eq_true, decide_eq_true_eq] at hi
    exact ⟨fun q => q.elim hi.1 (fun z => absurd hi.2 (Nat.not_lt.mpr z)), h⟩
  · cases h
def cz {α : Type} (y : Int32) (k : Option α) : Option α := if y = 0 then none else k
theorem czi {α : Type} {y : Int32} {k : Option α} {r : α} (h : cz y k = some r) : ¬ y = 0 ∧ k = some r := by
  unfold cz at h
  split at h
  · cases h
  · exact ⟨by assumption, h⟩
def czl {α : Type} (y : Int64) (k : Option α) : Option α := if y = 0 then none else k
theorem czli {α : Type} {y : Int64} {k : Option α} {r : α} (h : czl y k = some r) : ¬ y = 0 ∧ k = some r := by
  unfold czl at h
  split at h
  · cases h
  · exact ⟨by assumption, h⟩
def ob {α β : Type} (o : Option (α × Vt)) (k : α → Vt → Option β) : Option β := match o with
  | none => none
  | some q => k q.1 q.2
theorem obi {α β : Type} {o : Option (α × Vt)} {k : α → Vt → Option β} {z : β} (h : ob o k = some z) : ∃ r V, o = some (r, V) ∧ k r V = some z := by
  cases o with
  | none => cases h
  | some q => exact ⟨q.1, q.2, rfl, h⟩
def rb (x : Int32) (V : Vt) : Option (Int32 × Vt) := if x = 0 ∨ x = 1 then some (x, V) else none
theorem rbi {x : Int32} {V : Vt} {r : Int32 × Vt} (h : rb x V = some r) : (x = 0 ∨ x = 1) ∧ some (x, V) = some r := by
  unfold rb at h
  split at h
  · exact ⟨by assumption, h⟩
  · cases h
/-- a boolean that is put into a field, a row -/
def cb {α : Type} (x : Int32) (k : Option α) : Option α := if x = 0 ∨ x = 1 then k else none
theorem cbi {α : Type} {x : Int32} {k : Option α} {r : α} (h : cb x k = some r) : (x = 0 ∨ x = 1) ∧ k = some r := by
  unfold cb at h
  split at h
  · exact ⟨by assumption, h⟩
  · cases h
theorem reti {α : Type} {x r : α} {V V' : Vt} (h : some (x, V) = some (r, V')) : x = r ∧ V = V' := by
  have := Option.some.inj h
  exact ⟨congrArg Prod.fst this, congrArg Prod.snd this⟩
theorem nb01 {x : Int32} (h : x = 0 ∨ x = 1) : narrow .boolean (.int x) = .int x := by rcases h with rfl | rfl <;> rfl
theorem fb01 {x : Int32} (h : x = 0 ∨ x = 1) : fits .boolean (.int x) = true := by rcases h with rfl | rfl <;> rfl
/-- what a family of contracts is made over -/
def Cx (ad : Nat → Nat) (A : Nat → Prop) (Kc : State → Prop) : Prop := (∀ a b, ad a = ad b → a = b) ∧ (∀ h, A (ad h)) ∧ (∀ s, Kc s → ∀ (U : State) (H : Heap) (locs : List Loc), va_S A s.heap H locs → U.heap = H → s.WarmedH U.vm → Kc U) ∧ ∀ (a : Array Value) (U : State) (g : JFrame) (mk : MethodId), Kc U → Kc (U.calling g mk a)
abbrev PreM (D : va_G) (cy : Nat → ClassId) (ad : Nat → Nat) (Kc : State → Prop) (S : St) (V : Vt) (avs : List Value) : Array Value → State → Prop := va_Pc avs (fun U => KK D cy U ∧ Kc U ∧ HM D cy ad S V U.heap)
abbrev QI (D : va_G) (cy : Nat → ClassId) (ad : Nat → Nat) (A : Nat → Prop) (r : Int32) (S : St) (V : Vt) : Array Value → State → Outcome → State → Prop := va_Qi (S := Unit) (fun q _ => q = r) (fun _ t => HM D cy ad S V t.heap) A
abbrev QL (D : va_G) (cy : Nat → ClassId) (ad : Nat → Nat) (A : Nat → Prop) (r : Int64) (S : St) (V : Vt) : Array Value → State → Outcome → State → Prop := va_Ql (S := Unit) (fun q _ => q = r) (fun _ t => HM D cy ad S V t.heap) A
abbrev QV (D : va_G) (cy : Nat → ClassId) (ad : Nat → Nat) (A : Nat → Prop) (S : St) (V : Vt) : Array Value → State → Outcome → State → Prop := va_Qv (S := Unit) (fun _ => True) (fun _ t => HM D cy ad S V t.heap) A
theorem PreM.blind {D : va_G} {cy : Nat → ClassId} {ad : Nat → Nat} {Kc : State → Prop} {S : St} {V : Vt} {avs : List Value} (hB : ∀ (a : Array Value) (U : State) (g : JFrame) (mk : MethodId), Kc U → Kc (U.calling g mk a)) : FrameBlind (PreM D cy ad Kc S V avs) := fun a U g mk q => ⟨q.1, q.2.1.same rfl, hB _ _ _ _ q.2.2.1, q.2.2.2⟩
/-- the beginning of a method's walk -/
theorem ct_of {l : Launch} {D : va_G} {cy : Nat → ClassId} {ad : Nat → Nat} {A : Nat → Prop} {Kc : State → Prop} (C : Cx ad A Kc) {y : MethodName} {cc : ByteArray} {nL : Nat} {ret : Option FieldType} {rm : Room} {S : St} {V : Vt} {avs : List Value} {Qc : Array Value → State → Outcome → State → Prop} {mc ms : Nat} {own : String}
    (ho : y.cls = own) (hy : plainName y.cls = true) (hlen : Nat.ble (lg_sl avs).length nL = true)
    (body : ∀ p e s m below meth c ls, Fx p s m avs.toArray c cc own nL D cy ad A Kc → meth.sig.returnType = ret → meth.locks = false → meth.name = y.name → lv_has ls nL (lv_args 0 avs) → Wd D cy ad A s.heap S V s.heap [] →
      W p l e rm s m avs.toArray below meth c s.heap [] 0 0 (MQ below Qc avs.toArray s mc ms A) (F0 m 0 ls [])) : Met l y (mw y cc nL ret) rm (PreM D cy ad Kc S V avs) Qc mc ms A := by
  subst ho
  refine Met.ofW (cc := cc) (maxL := nL) (ret := ret) hy rfl ?_
  intro p e s m args below meth c s₁ B hml hv
  obtain ⟨rfl, hK, hKc, hM⟩ := hv
  have hl := lv_entry avs (n := nL) (Nat.le_of_ble_eq_true hlen)
  rw [lg_entry_eq]
  exact body p e s m below meth c _ ⟨⟨B.exec, B.bytes, hml⟩, findClass_of_methodNamed B.named, fun w hw => atoms_spec (ws := mw y cc nL ret) B.pre w (List.mem_cons_of_mem _ hw), hK, C.1, C.2.1, C.2.2.1 s hKc, C.2.2.2⟩ B.returns B.notSynchronized (name_of_methodNamed B.named B.method).1 hl ⟨hM, va_S.rf⟩
theorem goodIn_sub' {ws : List Cond} (h : ∀ w ∈ ws, w ∈ gw) : GoodIn gw ws := fun w hw => ⟨h w hw, gw_good (h w hw)⟩
/-- a method that is called on an object, on none -/
def MIv (C : String) (y : MethodName) (cc : ByteArray) (nL : Nat) (ret : Option FieldType) (n : Nat) : Prop := Cond.code y cc nL ret ∈ gw ∧ Cond.instanceMethod y ∈ gw ∧ Cond.selects C y y ∈ gw ∧ Cond.initialized C ∈ gw ∧ y.cls = C ∧ (y.cls ≠ "java/lang/invoke/MethodHandle" ∧ y.cls ≠ "java/lang/invoke/VarHandle" ∧ (parseMethodDescriptor y.desc).map (fun d => d.parameters.length) = some n)
def MIs (C : String) (y : MethodName) (cc : ByteArray) (nL : Nat) (ret : Option FieldType) (n : Nat) : Prop := Cond.code y cc nL ret ∈ gw ∧ Cond.static y ∈ gw ∧ Cond.initialized C ∈ gw ∧ y.cls = C ∧ (y.cls ≠ "java/lang/invoke/MethodHandle" ∧ y.cls ≠ "java/lang/invoke/VarHandle" ∧ (parseMethodDescriptor y.desc).map (fun d => d.parameters.length) = some n)
/-- the room that a callee asks for -/
def Rk (R rm : Room) (maxL cells slots mc ms : Nat) : Prop := (rm.cells = mc ∧ rm.slots = ms ∧ rm.frames + 1 ≤ R.frames ∧ 8 + (maxL + 11) + rm.locals ≤ R.locals) ∧ cells + mc ≤ R.cells ∧ slots + ms ≤ R.slots
section MC
variable {p : Program} {l : Launch} {e : Env} {R : Room} {s : State} {m : MethodId} {args : Array Value} {below : List Frame} {meth : Method} {c : Code} {H : Heap} {locs : List Loc} {cells slots : Nat} {Q : State → Prop}
variable {cc : ByteArray} {pc : Nat} {ls : Array Slot} {rest st0 As : List Value} {own C : String} {nL : Nat} {D : va_G} {cy : Nat → ClassId} {ad : Nat → Nat} {A : Nat → Prop} {Kc : State → Prop} {S S' : St} {V V' : Vt}
variable {y : MethodName} {bytes : ByteArray} {maxL n mc ms index : Nat} {ret : Option FieldType} {rm : Room} {Qc : Array Value → State → Outcome → State → Prop} {lv : List (Nat × Value)}
theorem m_rV (X : Fx p s m args c cc own nL D cy ad A Kc) (w : Wd D cy ad A s.heap S V H locs) (hl : lv_has ls nL lv) (M : MIv C y bytes maxL ret n) (hlink : Cond.methodLink own index y ∈ gw) (h : Nat) (hn : h < S.1) {ci : Nat} (hk : S.2.1 h = ci) {T : u_T} {N : Nat} (hcl : vwCl[ci]? = some (C, T, N))
    (hM : Met l y (mw y bytes maxL ret) rm (PreM D cy ad Kc S V (.ref (ad h) :: As)) Qc mc ms A) (hr : Rk R rm maxL cells slots mc ms) (hlen : As.length = n) (hst : st0 = As.reverse ++ .ref (ad h) :: rest) (hW : (rest.map fun v => v.category).sum ≤ 8) (hdg : decode cc pc = .ok (.invokevirtual index, 3)) :
    va_Run p l e R s m args below meth c H locs cells slots mc ms (F0 m pc ls st0) rest (Qc (Value.ref (ad h) :: As).toArray) A := by
  subst hk
  obtain ⟨⟨hx, hb, hml⟩, ho, hts, hK, -, -, hT, hB⟩ := X
  obtain ⟨m1, m2, m3, m4, m5, m6⟩ := M
  obtain ⟨⟨r1, r2, r3, r4⟩, r5⟩ := hr
  obtain ⟨cell, q1, q2, q3, q4⟩ := (w.1.2 h hn).1 _ hcl
  have hfc : s.vm.findClass C = some cell.cls := by rw [q2]; exact (hK.1.1 _ _ hcl).2.1
  subst hst
  refine va_runV (Ts := gw) (C := C) (index := index) (n := n) ⟨hx, hb, hml, ho, hts⟩ hM (cwV n hts (goodIn_sub' (fun w hw => ?_)) rfl r1 r2 ⟨m5, m6⟩ ⟨r3, r4⟩) ⟨PreM.blind hB, ⟨cell, q1, by rw [q3]; rfl, hfc⟩, fun U hU hW => ⟨rfl, hK.warm hW, hT U H locs w.2 hU hW, by rw [hU]; exact w.1⟩⟩ rfl hlen hl.1 rfl (lv_room hW) hdg r5
  rcases List.mem_append.mp hw with hw | hw
  · simp only [List.mem_cons, List.not_mem_nil, or_false] at hw
    rcases hw with rfl | rfl | rfl | rfl <;> assumption
  · rcases List.mem_cons.mp hw with rfl | hw
    · exact m1
    · exact hw
theorem m_rS (X : Fx p s m args c cc own nL D cy ad A Kc) (w : Wd D cy ad A s.heap S V H locs) (hl : lv_has ls nL lv) (M : MIs C y bytes maxL ret n) (hlink : Cond.methodLink own index y ∈ gw)
    (hM : Met l y (mw y bytes maxL ret) rm (PreM D cy ad Kc S V As) Qc mc ms A) (hr : Rk R rm maxL cells slots mc ms) (hlen : As.length = n) (hst : st0 = As.reverse ++ rest) (hW : (rest.map fun v => v.category).sum ≤ 8) (hdg : decode cc pc = .ok (.invokestatic index, 3)) :
    va_Run p l e R s m args below meth c H locs cells slots mc ms (F0 m pc ls st0) rest (Qc As.toArray) A := by
  obtain ⟨⟨hx, hb, hml⟩, ho, hts, hK, -, -, hT, hB⟩ := X
  obtain ⟨m1, m2, m3, m4, m5⟩ := M
  obtain ⟨⟨r1, r2, r3, r4⟩, r5⟩ := hr
  subst hst
  have hG : GoodIn gw (mw y bytes maxL ret) := gw_mw (fun _ h => h) m1
  exact va_runS (Ts := gw) (index := index) (n := n) ⟨hx, hb, hml, ho, hts⟩ hM ⟨callB_of n hts hG rfl r1 r2 (hts _ (by rw [m4]; exact m3)) (hts _ hlink) m5 ⟨r3, r4⟩, hts _ m2⟩ ⟨PreM.blind hB, fun U hU hW => ⟨rfl, hK.warm hW, hT U H locs w.2 hU hW, by rw [hU]; exact w.1⟩⟩ rfl hlen hl.1 rfl (lv_room hW) hdg r5
theorem m_rSN {host : String} (X : Fx p s m args c cc own nL D cy ad A Kc) (w : Wd D cy ad A s.heap S V H locs) (hl : lv_has ls nL lv) (M : MIs C y bytes maxL ret n) (hlink : Cond.methodLinkNest own index y host ∈ nestW)
    (hM : Met l y (mw y bytes maxL ret) rm (PreM D cy ad Kc S V As) Qc mc ms A) (hr : Rk R rm maxL cells slots mc ms) (hlen : As.length = n) (hst : st0 = As.reverse ++ rest) (hW : (rest.map fun v => v.category).sum ≤ 8) (hdg : decode cc pc = .ok (.invokestatic index, 3)) :
    va_Run p l e R s m args below meth c H locs cells slots mc ms (F0 m pc ls st0) rest (Qc As.toArray) A := by
  obtain ⟨⟨hx, hb, hml⟩, ho, hts, hK, -, -, hT, hB⟩ := X
  obtain ⟨m1, m2, m3, m4, m5⟩ := M
  obtain ⟨⟨r1, r2, r3, r4⟩, r5⟩ := hr
  subst hst
  have hG : GoodIn gw (mw y bytes maxL ret) := gw_mw (fun _ h => h) m1
  exact va_runSN (Ts := gw) (index := index) (n := n) ⟨hx, hb, hml, ho, hts⟩ hM ⟨va_cnB n hts hG rfl r1 r2 (hK.2 _ hlink) (hts _ (by rw [m4]; exact m3)) m5 ⟨r3, r4⟩, hts _ m2, trivial⟩ ⟨PreM.blind hB, fun U hU hW => ⟨rfl, hK.warm hW, hT U H locs w.2 hU hW, by rw [hU]; exact w.1⟩⟩ rfl hlen hl.1 rfl (lv_room hW) hdg r5
theorem m_ci {a : Array Value} {r : Int32} (hr : va_Run p l e R s m args below meth c H locs cells slots mc ms (F0 m pc ls st0) rest (QI D cy ad A r S' V' a) A) (w : Wd D cy ad A s.heap S V H locs)
    (kk : ∀ H' locs', Wd D cy ad A s.heap S' V' H' locs' → W p l e R s m args below meth c H' locs' (cells + mc) (slots + ms) Q (F0 m (pc + 3) ls (.int r :: rest))) : W p l e R s m args below meth c H locs cells slots Q (F0 m pc ls st0) := by
  refine va_calli hr w.2 (fun _ _ h => h) (fun _ h => h) (fun r2 u t H1 locs1 ht hvm hp hB hz hk hS => ?_)
  subst hp
  exact kk H1 locs1 ⟨by rw [← ht]; exact hB, hS⟩
theorem m_cl {a : Array Value} {r : Int64} (hr : va_Run p l e R s m args below meth c H locs cells slots mc ms (F0 m pc ls st0) rest (QL D cy ad A r S' V' a) A) (w : Wd D cy ad A s.heap S V H locs)
    (kk : ∀ H' locs', Wd D cy ad A s.heap S' V' H' locs' → W p l e R s m args below meth c H' locs' (cells + mc) (slots + ms) Q (F0 m (pc + 3) ls (.long r :: rest))) : W p l e R s m args below meth c H locs cells slots Q (F0 m pc ls st0) := by
  refine va_calll hr w.2 (fun _ _ h => h) (fun _ h => h) (fun r2 u t H1 locs1 ht hvm hp hB hz hk hS => ?_)
  subst hp
  exact kk H1 locs1 ⟨by rw [← ht]; exact hB, hS⟩
theorem m_cv {a : Array Value} (hr : va_Run p l e R s m args below meth c H locs cells slots mc ms (F0 m pc ls st0) rest (QV D cy ad A S' V' a) A) (w : Wd D cy ad A s.heap S V H locs)
    (kk : ∀ H' locs', Wd D cy ad A s.heap S' V' H' locs' → W p l e R s m args below meth c H' locs' (cells + mc) (slots + ms) Q (F0 m (pc + 3) ls rest)) : W p l e R s m args below meth c H locs cells slots Q (F0 m pc ls st0) := by
  refine va_callv hr w.2 (fun _ _ h => h) (fun _ h => h) (fun u t H1 locs1 ht hvm hp hB hz hk hS => ?_)
  exact kk H1 locs1 ⟨by rw [← ht]; exact hB, hS⟩
/-- the ends of a method -/
theorem m_ri {v : Int32} (X : Fx p s m args c cc own nL D cy ad A Kc) (w : Wd D cy ad A s.heap S V H locs) (hr : meth.sig.returnType = some .int) (hlocks : meth.locks = false) (hdg : decode cc pc = .ok (.ireturn, 1)) :
    W p l e R s m args below meth c H locs cells slots (MQ below (QI D cy ad A v S V) args s cells slots A) (F0 m pc ls [.int v]) :=
  W.iret X.1.1 X.1.2.1 hr (fun t ht hW => ⟨⟨v, (), rfl, rfl, by show HM D cy ad S V t.heap; rw [ht]; exact w.1⟩, w.2.F ht⟩) w.2.2.2 hdg
theorem m_rz {v : Int32} {ty : FieldType} (X : Fx p s m args c cc own nL D cy ad A Kc) (w : Wd D cy ad A s.heap S V H locs) (hr : meth.sig.returnType = some ty) (hn : narrow ty (.int v) = .int v) (hlocks : meth.locks = false) (hdg : decode cc pc = .ok (.ireturn, 1)) :
    W p l e R s m args below meth c H locs cells slots (MQ below (QI D cy ad A v S V) args s cells slots A) (F0 m pc ls [.int v]) :=
  W.zret X.1.1 X.1.2.1 hr hn (fun t ht hW => ⟨⟨v, (), rfl, rfl, by show HM D cy ad S V t.heap; rw [ht]; exact w.1⟩, w.2.F ht⟩) w.2.2.2 hdg
theorem m_rl {v : Int64} (X : Fx p s m args c cc own nL D cy ad A Kc) (w : Wd D cy ad A s.heap S V H locs) (hr : meth.sig.returnType = some .long) (hlocks : meth.locks = false) (hdg : decode cc pc = .ok (.lreturn, 1)) :
    W p l e R s m args below meth c H locs cells slots (MQ below (QL D cy ad A v S V) args s cells slots A) (F0 m pc ls [.long v]) :=
  W.lret X.1.1 X.1.2.1 hr (fun t ht hW => ⟨⟨v, (), rfl, rfl, by show HM D cy ad S V t.heap; rw [ht]; exact w.1⟩, w.2.F ht⟩) w.2.2.2 hdg
theorem m_rv (X : Fx p s m args c cc own nL D cy ad A Kc) (w : Wd D cy ad A s.heap S V H locs) (hr : meth.sig.returnType = none) (hlocks : meth.locks = false) (hdg : decode cc pc = .ok (.return_, 1)) :
    W p l e R s m args below meth c H locs cells slots (MQ below (QV D cy ad A S V) args s cells slots A) (F0 m pc ls []) :=
  W.vret X.1.1 X.1.2.1 hr (fun t ht hW => ⟨⟨(), rfl, trivial, by show HM D cy ad S V t.heap; rw [ht]; exact w.1⟩, w.2.F ht⟩) w.2.2.2 hdg
end MC
