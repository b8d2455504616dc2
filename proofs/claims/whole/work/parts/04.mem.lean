/-! MEMORY: cells by handles. A static part (how many, the kind of each, lengths of rows, references in objects) and what changes (whole numbers in objects, rows of numbers, rows of longs, rows of references). -/
abbrev St : Type := Nat × (Nat → Nat) × (Nat → Nat) × (Nat → Nat → Nat) × Nat
abbrev Vt : Type := (Nat → Nat → Int32) × (Nat → Nat → Int32) × (Nat → Nat → Int64) × (Nat → Nat → Nat)
def up2 {α : Type} (f : Nat → Nat → α) (h j : Nat) (x : α) : Nat → Nat → α := fun a b => if a = h ∧ b = j then x else f a b
def sF (V : Vt) (h j : Nat) (x : Int32) : Vt := (up2 V.1 h j x, V.2)
def sA (V : Vt) (h j : Nat) (x : Int32) : Vt := (V.1, up2 V.2.1 h j x, V.2.2)
def sJ (V : Vt) (h j : Nat) (x : Int64) : Vt := (V.1, V.2.1, up2 V.2.2.1 h j x, V.2.2.2)
def sR (V : Vt) (h j : Nat) (x : Nat) : Vt := (V.1, V.2.1, V.2.2.1, up2 V.2.2.2 h j x)
/-- which fields of a class are references -/
def rTab : List (List Bool) := [[true, true, true, true, true, true, true, true, true, false, false, false, false, false],
  [true, false],
  [true, true, true],
  [true, true, true, true, true],
  [true, false],
  [true, true, true, true, false, false, false, false, false, false, false, false],
  [true, true],
  [true, true, false],
  [true, true, true, true, true, true, true, true, true, true, true, true, true, true, true, false, false, false, false],
  [false, true, true, true, true, true, false, true, false, false, false, true, true, false, false, true, true, true, false, false, false, false, false, false, false, false, true, false, false, true, true, false, true, true, true, true, true, true, true, true, false, false, false, false, false, false, true, true, false, false]]
def isR (c j : Nat) : Bool := (rTab.getD c []).getD j false
def rfv (ad : Nat → Nat) : Nat → Value
  | 0 => .null
  | q + 1 => .ref (ad q)
def fv (ad : Nat → Nat) (S : St) (V : Vt) (h j : Nat) : Value := if isR (S.2.1 h) j then rfv ad (S.2.2.2.1 h j) else .int (V.1 h j)
def av (ad : Nat → Nat) (S : St) (V : Vt) (h i : Nat) : Value := if S.2.1 h = 12 then .long (V.2.2.1 h i) else if S.2.1 h < 14 then .int (V.2.1 h i) else rfv ad (V.2.2.2 h i)
def hc (D : va_G) (cy : Nat → ClassId) (ad : Nat → Nat) (S : St) (V : Vt) (h : Nat) (H : Heap) : Prop :=
  (∀ r : vw_C, vwCl[S.2.1 h]? = some r → t_OB (ad h) (D.1 (S.2.1 h)) r.2.2 (D.2 (S.2.1 h)) H (fv ad S V h)) ∧ (vwCl[S.2.1 h]? = none → H[ad h]? = some (arrV (cy (S.2.1 h)) (S.2.2.1 h) (av ad S V h)))
def HM (D : va_G) (cy : Nat → ClassId) (ad : Nat → Nat) (S : St) (V : Vt) (H : Heap) : Prop := H.size = S.2.2.2.2 ∧ ∀ h, h < S.1 → hc D cy ad S V h H
def tyA (cy : Nat → ClassId) : List (ClassId × FieldType) := [(cy 10, .byte), (cy 11, .int), (cy 12, .long), (cy 13, .boolean), (cy 14, .object "LedgerHounds$Book"), (cy 15, .object "LedgerHounds$Text")]
def KK (D : va_G) (cy : Nat → ClassId) (s : State) : Prop := va_K D vwCl (tyA cy) s ∧ ∀ w ∈ nestW, va_Nw w s
theorem KK.warm {D : va_G} {cy : Nat → ClassId} {s U : State} (h : KK D cy s) (hW : s.WarmedH U.vm) : KK D cy U := by
  refine ⟨va_K.moved hW.alike h.1, fun w hw => ?_⟩
  have h1 := h.2 w hw
  have h2 := (List.mem_filter.mp hw).2
  cases w <;> first | exact h1.warmF hW | exact h1.warmM hW | (simp [isNest] at h2)
theorem KK.same {D : va_G} {cy : Nat → ClassId} {s U : State} (h : KK D cy s) (hv : s.vm = U.vm) : KK D cy U := by
  refine ⟨va_K.moved (by rw [hv]; exact Vm.Alike.refl U.vm) h.1, fun w hw => ?_⟩
  have h1 := h.2 w hw
  have h2 := (List.mem_filter.mp hw).2
  cases w <;> first | exact va_Nw.same rfl hv h1 | (simp [isNest] at h2)
/-- what V and V' say alike but of one handle -/
def Vof (h : Nat) (V V' : Vt) : Prop := ∀ g, g ≠ h → V'.1 g = V.1 g ∧ V'.2.1 g = V.2.1 g ∧ V'.2.2.1 g = V.2.2.1 g ∧ V'.2.2.2 g = V.2.2.2 g
theorem up2_ne {α : Type} {f : Nat → Nat → α} {h j g : Nat} {x : α} (hg : g ≠ h) : up2 f h j x g = f g := by
  funext b; simp [up2, hg]
theorem Vof_sF {V : Vt} {h j : Nat} {x : Int32} : Vof h V (sF V h j x) := fun g hg => ⟨up2_ne hg, rfl, rfl, rfl⟩
theorem Vof_sA {V : Vt} {h j : Nat} {x : Int32} : Vof h V (sA V h j x) := fun g hg => ⟨rfl, up2_ne hg, rfl, rfl⟩
theorem Vof_sJ {V : Vt} {h j : Nat} {x : Int64} : Vof h V (sJ V h j x) := fun g hg => ⟨rfl, rfl, up2_ne hg, rfl⟩
theorem Vof_sR {V : Vt} {h j : Nat} {x : Nat} : Vof h V (sR V h j x) := fun g hg => ⟨rfl, rfl, rfl, up2_ne hg⟩
theorem hc.kept {D : va_G} {cy : Nat → ClassId} {ad : Nat → Nat} {S : St} {V : Vt} {h : Nat} {H H1 : Heap} (hh : hc D cy ad S V h H) (hq : H1[ad h]? = H[ad h]?) : hc D cy ad S V h H1 :=
  ⟨fun r hr => (hh.1 r hr).kept hq, fun hn => hq.trans (hh.2 hn)⟩
theorem hc.of {D : va_G} {cy : Nat → ClassId} {ad : Nat → Nat} {S : St} {V V' : Vt} {h g : Nat} {H : Heap} (hv : Vof h V V') (hg : g ≠ h) (hh : hc D cy ad S V g H) : hc D cy ad S V' g H := by
  obtain ⟨e1, e2, e3, e4⟩ := hv g hg
  have f1 : fv ad S V' g = fv ad S V g := by funext j; simp [fv, e1]
  have f2 : av ad S V' g = av ad S V g := by funext j; simp [av, e2, e3, e4]
  exact ⟨fun r hr => by rw [f1]; exact hh.1 r hr, fun hn => by rw [f2]; exact hh.2 hn⟩
theorem HM.up {D : va_G} {cy : Nat → ClassId} {ad : Nat → Nat} {S : St} {V V' : Vt} {H H1 : Heap} (hM : HM D cy ad S V H) (hi : ∀ a b, ad a = ad b → a = b) (h : Nat) (hz : H1.size = H.size) (hv : Vof h V V') (ho : ∀ q, q ≠ ad h → H1[q]? = H[q]?) (hc' : hc D cy ad S V' h H1) : HM D cy ad S V' H1 := by
  refine ⟨hz.trans hM.1, fun g hg => ?_⟩
  by_cases hgh : g = h
  · subst hgh; exact hc'
  · exact ((hM.2 g hg).of hv hgh).kept (ho _ (fun e => hgh (hi _ _ e)))
/-- what stays the same through a method's walk -/
def Fx (p : Program) (s : State) (m : MethodId) (args : Array Value) (c : Code) (cc : ByteArray) (own : String) (nL : Nat) (D : va_G) (cy : Nat → ClassId) (ad : Nat → Nat) (A : Nat → Prop) (Kc : State → Prop) : Prop :=
  (p.tables.exec = Jvm.exec ∧ c.code = cc ∧ c.maxLocals = nL) ∧ s.vm.findClass own = some m.cls ∧ (∀ w ∈ gw, w.before args s = true) ∧ KK D cy s ∧ (∀ a b, ad a = ad b → a = b) ∧ (∀ h, A (ad h)) ∧ (∀ (U : State) (H : Heap) (locs : List Loc), va_S A s.heap H locs → U.heap = H → s.WarmedH U.vm → Kc U) ∧ ∀ (a : Array Value) (U : State) (g : JFrame) (mk : MethodId), Kc U → Kc (U.calling g mk a)
/-- the world at a point of the walk -/
def Wd (D : va_G) (cy : Nat → ClassId) (ad : Nat → Nat) (A : Nat → Prop) (H0 : Heap) (S : St) (V : Vt) (H : Heap) (locs : List Loc) : Prop := HM D cy ad S V H ∧ va_S A H0 H locs
/-- a class, its fields -/
def CI (ci : Nat) (C : String) (T : u_T) (N : Nat) (ty : Nat → FieldType) : Prop := vwCl[ci]? = some (C, T, N) ∧ (∀ w ∈ u_ws C T N, w ∈ gw) ∧ (∀ k, k < N → parseFieldDescriptor (T k).2.2.1 = some (ty k)) ∧ (∀ a, a < N → ∀ b, b < N → a ≠ b → (T a).2.1 ≠ (T b).2.1)
theorem gw_all {ws : List Cond} (h : ws.all (fun w => decide (w ∈ tables_1) && goodWord w) = true) : ∀ w ∈ ws, w ∈ gw := by
  intro w hw
  have h1 := List.all_eq_true.mp h w hw
  simp only [Bool.and_eq_true, decide_eq_true_eq] at h1
  exact List.mem_filter.mpr ⟨List.mem_append_right _ h1.1, h1.2⟩
theorem ci0 : CI 0 RX0 TX0 14 tyX0 := ⟨rfl, gw_all (by decide +kernel), tyX0_ok, nmX0⟩
theorem ci1 : CI 1 RX1 TX1 2 tyX1 := ⟨rfl, gw_all (by decide +kernel), tyX1_ok, nmX1⟩
theorem ci2 : CI 2 RX2 TX2 3 tyX2 := ⟨rfl, gw_all (by decide +kernel), tyX2_ok, nmX2⟩
theorem ci3 : CI 3 RX3 TX3 5 tyX3 := ⟨rfl, gw_all (by decide +kernel), tyX3_ok, nmX3⟩
theorem ci4 : CI 4 RX4 TX4 2 tyX4 := ⟨rfl, gw_all (by decide +kernel), tyX4_ok, nmX4⟩
theorem ci5 : CI 5 RX5 TX5 12 tyX5 := ⟨rfl, gw_all (by decide +kernel), tyX5_ok, nmX5⟩
theorem ci6 : CI 6 RX6 TX6 2 tyX6 := ⟨rfl, gw_all (by decide +kernel), tyX6_ok, nmX6⟩
theorem ci7 : CI 7 RX7 TX7 3 tyX7 := ⟨rfl, gw_all (by decide +kernel), tyX7_ok, nmX7⟩
theorem ci8 : CI 8 RX8 TX8 19 tyX8 := ⟨rfl, gw_all (by decide +kernel), tyX8_ok, nmX8⟩
theorem ci9 : CI 9 RX9 TX9 50 tyX9 := ⟨rfl, gw_all (by decide +kernel), tyX9_ok, nmX9⟩
theorem fvI {ad : Nat → Nat} {S : St} {V : Vt} {h j ci : Nat} (hk : S.2.1 h = ci) (hr : isR ci j = false) : fv ad S V h j = .int (V.1 h j) := by simp [fv, hk, hr]
theorem fvR {ad : Nat → Nat} {S : St} {V : Vt} {h j ci q : Nat} (hk : S.2.1 h = ci) (hr : isR ci j = true) (hp : S.2.2.2.1 h j = q + 1) : fv ad S V h j = .ref (ad q) := by simp [fv, hk, hr, hp, rfv]
theorem avI {ad : Nat → Nat} {S : St} {V : Vt} {h k : Nat} (hk : S.2.1 h = k) (h1 : (k == 12) = false) (h2 : Nat.blt k 14 = true) : av ad S V h = fun i => .int (V.2.1 h i) := by
  funext i
  have a1 : ¬ k = 12 := by simpa using h1
  have a2 : k < 14 := by have := Nat.le_of_ble_eq_true h2; omega
  simp [av, hk, a1, a2]
theorem avJ {ad : Nat → Nat} {S : St} {V : Vt} {h : Nat} (hk : S.2.1 h = 12) : av ad S V h = fun i => .long (V.2.2.1 h i) := by
  funext i
  simp [av, hk]
section MM
variable {p : Program} {l : Launch} {e : Env} {R : Room} {s : State} {m : MethodId} {args : Array Value} {below : List Frame} {meth : Method} {c : Code} {H : Heap} {locs : List Loc} {cells slots : Nat} {Q : State → Prop}
variable {cc : ByteArray} {pc : Nat} {ls : Array Slot} {rest : List Value} {own : String} {nL : Nat} {D : va_G} {cy : Nat → ClassId} {ad : Nat → Nat} {A : Nat → Prop} {Kc : State → Prop} {S : St} {V : Vt}
theorem m_get (X : Fx p s m args c cc own nL D cy ad A Kc) (w : Wd D cy ad A s.heap S V H locs) (h : Nat) (hn : h < S.1) {ci : Nat} (hk : S.2.1 h = ci) {C : String} {T : u_T} {N : Nat} {ty : Nat → FieldType} (I : CI ci C T N ty) (j : Nat) (hj : j < N) {v : Value} (hv : fv ad S V h j = v) {index : Nat} (hown : (T j).1 = C) (hlink : Cond.fieldLink own index C (T j).2.1 (T j).2.2.1 ∈ gw) (hdg : decode cc pc = .ok (.getfield index, 3))
    (kk : W p l e R s m args below meth c H locs cells slots Q (F0 m (pc + 3) ls (v :: rest))) : W p l e R s m args below meth c H locs cells slots Q (F0 m pc ls (.ref (ad h) :: rest)) := by
  subst hk
  obtain ⟨⟨hx, hb, -⟩, ho, hts, hK, -⟩ := X
  obtain ⟨hcl, hin, -, -⟩ := I
  obtain ⟨cell, q1, q2, q3, q4⟩ := (w.1.2 h hn).1 _ hcl
  obtain ⟨hS, hfc, kC, hkC, hkind⟩ := hK.1.1 _ _ hcl
  obtain ⟨cf, kf, fi, f, hi, hsl⟩ := hS j hj
  rw [hown] at hi
  refine W.getf hx hb ho (hts _ hlink) hi (u_facts hfc hkC (u_lays hts hin hj) (by rw [hown]; exact hi)).1 q1 (by rw [q3]; exact fun h => by cases h) (v := v) ?_ rfl rfl hdg kk
  rw [hsl, q4 j hj, hv]
theorem m_getN (X : Fx p s m args c cc own nL D cy ad A Kc) (w : Wd D cy ad A s.heap S V H locs) (h : Nat) (hn : h < S.1) {ci : Nat} (hk : S.2.1 h = ci) {C : String} {T : u_T} {N : Nat} {ty : Nat → FieldType} (I : CI ci C T N ty) (j : Nat) (hj : j < N) {v : Value} (hv : fv ad S V h j = v) {index : Nat} {host : String} (hown : (T j).1 = C) (hlink : Cond.fieldLinkNest own index C (T j).2.1 (T j).2.2.1 host ∈ nestW) (hdg : decode cc pc = .ok (.getfield index, 3))
    (kk : W p l e R s m args below meth c H locs cells slots Q (F0 m (pc + 3) ls (v :: rest))) : W p l e R s m args below meth c H locs cells slots Q (F0 m pc ls (.ref (ad h) :: rest)) := by
  subst hk
  obtain ⟨⟨hx, hb, -⟩, ho, hts, hK, -⟩ := X
  obtain ⟨hcl, hin, -, -⟩ := I
  obtain ⟨cell, q1, q2, q3, q4⟩ := (w.1.2 h hn).1 _ hcl
  obtain ⟨hS, hfc, kC, hkC, hkind⟩ := hK.1.1 _ _ hcl
  obtain ⟨cf, kf, fi, f, hi, hsl⟩ := hS j hj
  rw [hown] at hi
  refine va_Wgetf hx hb ho (va_Nw.use rfl (hK.2 _ hlink)) hi (u_facts hfc hkC (u_lays hts hin hj) (by rw [hown]; exact hi)).1 q1 (by rw [q3]; exact fun h => by cases h) (v := v) ?_ rfl rfl hdg kk
  rw [hsl, q4 j hj, hv]
/-- a whole number put into a field (int, or a boolean that is 0 or 1) -/
theorem m_put (X : Fx p s m args c cc own nL D cy ad A Kc) (w : Wd D cy ad A s.heap S V H locs) (h : Nat) (hn : h < S.1) {ci : Nat} (hk : S.2.1 h = ci) {C : String} {T : u_T} {N : Nat} {ty : Nat → FieldType} (I : CI ci C T N ty) (j : Nat) (hj : j < N) (hr : isR ci j = false) {x : Int32} {index : Nat} (hown : (T j).1 = C) (hfin : (T j).2.2.2 = false) (hnr : narrow (ty j) (.int x) = .int x) (hft : fits (ty j) (.int x) = true) (hlink : Cond.fieldLink own index C (T j).2.1 (T j).2.2.1 ∈ gw) (hdg : decode cc pc = .ok (.putfield index, 3))
    (kk : ∀ V' H' locs', V' = sF V h j x → Wd D cy ad A s.heap S V' H' locs' → W p l e R s m args below meth c H' locs' cells slots Q (F0 m (pc + 3) ls rest)) : W p l e R s m args below meth c H locs cells slots Q (F0 m pc ls (.int x :: .ref (ad h) :: rest)) := by
  subst hk
  obtain ⟨⟨hx, hb, -⟩, ho, hts, hK, hinj, hA, -⟩ := X
  obtain ⟨hcl, hin, hty, hnm⟩ := I
  have hap := va_apart (own := own) hts hin ty hty hnm hK.1 hcl
  obtain ⟨cell, q1, q2, q3, q4⟩ := (w.1.2 h hn).1 _ hcl
  obtain ⟨hS, hfc, kC, hkC, hkind⟩ := hK.1.1 _ _ hcl
  obtain ⟨cf, kf, fi, f, hi, hsl⟩ := hS j hj
  have hlay := hts _ (hin _ (u_in_lay hj))
  unfold u_lay at hlay
  rw [if_neg (by rw [hfin]; decide)] at hlay
  have hst := (u_facts hfc hkC (u_lays hts hin hj) hi).1
  have h6 := u_store hfc hkC hkind hlay hi (hty j hj) hnr hft
  refine W.putK hx hb (f := f) ⟨ho, hts _ hlink, ⟨_, _, _, by rw [hown] at hi; exact hi⟩, hst⟩ (by rw [q2]; exact h6) q1 q3 (by rw [hsl]; exact k2_hasslot (q4 j hj)) rfl rfl hdg fun H' e1 e2 e3 => ?_
  rw [hsl] at e1 ⊢
  refine kk _ H' _ rfl ⟨w.1.up hinj h e2 Vof_sF e3 ⟨fun r hr2 => ?_, fun hno => by rw [hcl] at hno; cases hno⟩, w.2.put e2 e3 (hA h)⟩
  have hr3 : r = (C, T, N) := Option.some.inj (hr2.symm.trans hcl)
  subst hr3
  refine t_OB.to (V := updV (fv ad S V h) j (.int x)) ⟨_, e1, q2, q3, t_set q4 hap hj _⟩ (fun i _ => ?_)
  by_cases hij : i = j
  · subst hij; simp [updV, fv, hr, sF, up2]
  · simp [updV, hij, fv, sF, up2]

theorem m_iald (X : Fx p s m args c cc own nL D cy ad A Kc) (w : Wd D cy ad A s.heap S V H locs) (h : Nat) (hn : h < S.1) (hk : S.2.1 h = 11) {n : Nat} (hz : S.2.2.1 h = n) {i : Int32} (hin : vp_in i n) (hdg : decode cc pc = .ok (.iaload, 1))
    (kk : W p l e R s m args below meth c H locs cells slots Q (F0 m (pc + 1) ls (.int (V.2.1 h i.toNatClampNeg) :: rest))) : W p l e R s m args below meth c H locs cells slots Q (F0 m pc ls (.int i :: .ref (ad h) :: rest)) := by
  obtain ⟨⟨hx, hb, -⟩, ho, hts, hK, -⟩ := X
  have hcell := (w.1.2 h hn).2 (by rw [hk]; rfl)
  rw [avI hk rfl rfl, hk, hz] at hcell
  have hlt : i.toNatClampNeg < n := Nat.not_le.mp fun q => hin (Or.inr q)
  exact W.iald (v := .int (V.2.1 h i.toNatClampNeg)) hx hb hcell ((hK.1.2 1 (cy 11, .int) rfl).1 n _) (fun q => by cases q) (by show ¬ (i < 0 ∨ (arrV _ _ _).slots.size ≤ _); rw [arrV_size]; exact hin) (by show (arrV _ _ _).slots[_]? = _; rw [arrV_read _ _ hlt]) rfl rfl hdg kk

theorem m_iast (X : Fx p s m args c cc own nL D cy ad A Kc) (w : Wd D cy ad A s.heap S V H locs) (h : Nat) (hn : h < S.1) (hk : S.2.1 h = 11) {n : Nat} (hz : S.2.2.1 h = n) {i : Int32} {x : Int32} (hin : vp_in i n) (hdg : decode cc pc = .ok (.iastore, 1))
    (kk : ∀ V' H' locs', V' = sA V h i.toNatClampNeg x → Wd D cy ad A s.heap S V' H' locs' → W p l e R s m args below meth c H' locs' cells slots Q (F0 m (pc + 1) ls rest)) : W p l e R s m args below meth c H locs cells slots Q (F0 m pc ls (.int x :: .int i :: .ref (ad h) :: rest)) := by
  obtain ⟨⟨hx, hb, -⟩, ho, hts, hK, hinj, hA, -⟩ := X
  have hcell := (w.1.2 h hn).2 (by rw [hk]; rfl)
  rw [avI hk rfl rfl, hk, hz] at hcell
  refine W.iast hx hb hcell ((hK.1.2 1 (cy 11, .int) rfl).1 n _) (fun q => by cases q) (by show ¬ (i < 0 ∨ (arrV _ _ _).slots.size ≤ _); rw [arrV_size]; exact hin) rfl rfl hdg fun H1 e1 z oq => ?_
  refine kk _ H1 _ rfl ⟨w.1.up hinj h z Vof_sA oq ⟨fun r hr => (by rw [hk] at hr; cases hr), fun _ => ?_⟩, w.2.put z oq (hA h)⟩
  rw [e1, arrV_store, avI hk rfl rfl, hk, hz]
  congr 2
  funext q
  by_cases hq : q = i.toNatClampNeg
  · subst hq; simp [updV, sA, up2, vp_nar, narrow]
  · simp [updV, hq, sA, up2]

theorem m_bald (X : Fx p s m args c cc own nL D cy ad A Kc) (w : Wd D cy ad A s.heap S V H locs) (h : Nat) (hn : h < S.1) (hk : S.2.1 h = 10) {n : Nat} (hz : S.2.2.1 h = n) {i : Int32} (hin : vp_in i n) (hdg : decode cc pc = .ok (.baload, 1))
    (kk : W p l e R s m args below meth c H locs cells slots Q (F0 m (pc + 1) ls (.int (V.2.1 h i.toNatClampNeg) :: rest))) : W p l e R s m args below meth c H locs cells slots Q (F0 m pc ls (.int i :: .ref (ad h) :: rest)) := by
  obtain ⟨⟨hx, hb, -⟩, ho, hts, hK, -⟩ := X
  have hcell := (w.1.2 h hn).2 (by rw [hk]; rfl)
  rw [avI hk rfl rfl, hk, hz] at hcell
  have hlt : i.toNatClampNeg < n := Nat.not_le.mp fun q => hin (Or.inr q)
  exact W.bald (v := .int (V.2.1 h i.toNatClampNeg)) hx hb hcell ((hK.1.2 0 (cy 10, .byte) rfl).1 n _) (fun q => by cases q) (by show ¬ (i < 0 ∨ (arrV _ _ _).slots.size ≤ _); rw [arrV_size]; exact hin) (by show (arrV _ _ _).slots[_]? = _; rw [arrV_read _ _ hlt]) rfl rfl hdg kk

theorem m_bast (X : Fx p s m args c cc own nL D cy ad A Kc) (w : Wd D cy ad A s.heap S V H locs) (h : Nat) (hn : h < S.1) (hk : S.2.1 h = 10) {n : Nat} (hz : S.2.2.1 h = n) {i : Int32} {x : Int32} (hin : vp_in i n) (hdg : decode cc pc = .ok (.bastore, 1))
    (kk : ∀ V' H' locs', V' = sA V h i.toNatClampNeg (vp_nar .byte x) → Wd D cy ad A s.heap S V' H' locs' → W p l e R s m args below meth c H' locs' cells slots Q (F0 m (pc + 1) ls rest)) : W p l e R s m args below meth c H locs cells slots Q (F0 m pc ls (.int x :: .int i :: .ref (ad h) :: rest)) := by
  obtain ⟨⟨hx, hb, -⟩, ho, hts, hK, hinj, hA, -⟩ := X
  have hcell := (w.1.2 h hn).2 (by rw [hk]; rfl)
  rw [avI hk rfl rfl, hk, hz] at hcell
  refine W.bast hx hb hcell ((hK.1.2 0 (cy 10, .byte) rfl).1 n _) (fun q => by cases q) (by show ¬ (i < 0 ∨ (arrV _ _ _).slots.size ≤ _); rw [arrV_size]; exact hin) rfl rfl hdg fun H1 e1 z oq => ?_
  refine kk _ H1 _ rfl ⟨w.1.up hinj h z Vof_sA oq ⟨fun r hr => (by rw [hk] at hr; cases hr), fun _ => ?_⟩, w.2.put z oq (hA h)⟩
  rw [e1, arrV_store, avI hk rfl rfl, hk, hz]
  congr 2
  funext q
  by_cases hq : q = i.toNatClampNeg
  · subst hq; simp [updV, sA, up2, vp_nar, narrow]
  · simp [updV, hq, sA, up2]

theorem m_zald (X : Fx p s m args c cc own nL D cy ad A Kc) (w : Wd D cy ad A s.heap S V H locs) (h : Nat) (hn : h < S.1) (hk : S.2.1 h = 13) {n : Nat} (hz : S.2.2.1 h = n) {i : Int32} (hin : vp_in i n) (hdg : decode cc pc = .ok (.baload, 1))
    (kk : W p l e R s m args below meth c H locs cells slots Q (F0 m (pc + 1) ls (.int (V.2.1 h i.toNatClampNeg) :: rest))) : W p l e R s m args below meth c H locs cells slots Q (F0 m pc ls (.int i :: .ref (ad h) :: rest)) := by
  obtain ⟨⟨hx, hb, -⟩, ho, hts, hK, -⟩ := X
  have hcell := (w.1.2 h hn).2 (by rw [hk]; rfl)
  rw [avI hk rfl rfl, hk, hz] at hcell
  have hlt : i.toNatClampNeg < n := Nat.not_le.mp fun q => hin (Or.inr q)
  exact W.zald (v := .int (V.2.1 h i.toNatClampNeg)) hx hb hcell ((hK.1.2 3 (cy 13, .boolean) rfl).1 n _) (fun q => by cases q) (by show ¬ (i < 0 ∨ (arrV _ _ _).slots.size ≤ _); rw [arrV_size]; exact hin) (by show (arrV _ _ _).slots[_]? = _; rw [arrV_read _ _ hlt]) rfl rfl hdg kk

theorem m_zast (X : Fx p s m args c cc own nL D cy ad A Kc) (w : Wd D cy ad A s.heap S V H locs) (h : Nat) (hn : h < S.1) (hk : S.2.1 h = 13) {n : Nat} (hz : S.2.2.1 h = n) {i : Int32} {x : Int32} (hin : vp_in i n) (hdg : decode cc pc = .ok (.bastore, 1))
    (kk : ∀ V' H' locs', V' = sA V h i.toNatClampNeg (vp_nar .boolean x) → Wd D cy ad A s.heap S V' H' locs' → W p l e R s m args below meth c H' locs' cells slots Q (F0 m (pc + 1) ls rest)) : W p l e R s m args below meth c H locs cells slots Q (F0 m pc ls (.int x :: .int i :: .ref (ad h) :: rest)) := by
  obtain ⟨⟨hx, hb, -⟩, ho, hts, hK, hinj, hA, -⟩ := X
  have hcell := (w.1.2 h hn).2 (by rw [hk]; rfl)
  rw [avI hk rfl rfl, hk, hz] at hcell
  refine W.zast hx hb hcell ((hK.1.2 3 (cy 13, .boolean) rfl).1 n _) (fun q => by cases q) (by show ¬ (i < 0 ∨ (arrV _ _ _).slots.size ≤ _); rw [arrV_size]; exact hin) rfl rfl hdg fun H1 e1 z oq => ?_
  refine kk _ H1 _ rfl ⟨w.1.up hinj h z Vof_sA oq ⟨fun r hr => (by rw [hk] at hr; cases hr), fun _ => ?_⟩, w.2.put z oq (hA h)⟩
  rw [e1, arrV_store, avI hk rfl rfl, hk, hz]
  congr 2
  funext q
  by_cases hq : q = i.toNatClampNeg
  · subst hq; simp [updV, sA, up2, vp_nar, narrow]
  · simp [updV, hq, sA, up2]

theorem m_lald (X : Fx p s m args c cc own nL D cy ad A Kc) (w : Wd D cy ad A s.heap S V H locs) (h : Nat) (hn : h < S.1) (hk : S.2.1 h = 12) {n : Nat} (hz : S.2.2.1 h = n) {i : Int32} (hin : vp_in i n) (hdg : decode cc pc = .ok (.laload, 1))
    (kk : W p l e R s m args below meth c H locs cells slots Q (F0 m (pc + 1) ls (.long (V.2.2.1 h i.toNatClampNeg) :: rest))) : W p l e R s m args below meth c H locs cells slots Q (F0 m pc ls (.int i :: .ref (ad h) :: rest)) := by
  obtain ⟨⟨hx, hb, -⟩, ho, hts, hK, -⟩ := X
  have hcell := (w.1.2 h hn).2 (by rw [hk]; rfl)
  rw [avJ hk, hk, hz] at hcell
  have hlt : i.toNatClampNeg < n := Nat.not_le.mp fun q => hin (Or.inr q)
  exact W.lald (v := .long (V.2.2.1 h i.toNatClampNeg)) hx hb hcell ((hK.1.2 2 (cy 12, .long) rfl).1 n _) (fun q => by cases q) (by show ¬ (i < 0 ∨ (arrV _ _ _).slots.size ≤ _); rw [arrV_size]; exact hin) (by show (arrV _ _ _).slots[_]? = _; rw [arrV_read _ _ hlt]) rfl rfl hdg kk

theorem m_last (X : Fx p s m args c cc own nL D cy ad A Kc) (w : Wd D cy ad A s.heap S V H locs) (h : Nat) (hn : h < S.1) (hk : S.2.1 h = 12) {n : Nat} (hz : S.2.2.1 h = n) {i : Int32} {x : Int64} (hin : vp_in i n) (hdg : decode cc pc = .ok (.lastore, 1))
    (kk : ∀ V' H' locs', V' = sJ V h i.toNatClampNeg x → Wd D cy ad A s.heap S V' H' locs' → W p l e R s m args below meth c H' locs' cells slots Q (F0 m (pc + 1) ls rest)) : W p l e R s m args below meth c H locs cells slots Q (F0 m pc ls (.long x :: .int i :: .ref (ad h) :: rest)) := by
  obtain ⟨⟨hx, hb, -⟩, ho, hts, hK, hinj, hA, -⟩ := X
  have hcell := (w.1.2 h hn).2 (by rw [hk]; rfl)
  rw [avJ hk, hk, hz] at hcell
  refine W.last hx hb hcell ((hK.1.2 2 (cy 12, .long) rfl).1 n _) (fun q => by cases q) (by show ¬ (i < 0 ∨ (arrV _ _ _).slots.size ≤ _); rw [arrV_size]; exact hin) rfl rfl hdg fun H1 e1 z oq => ?_
  refine kk _ H1 _ rfl ⟨w.1.up hinj h z Vof_sJ oq ⟨fun r hr => (by rw [hk] at hr; cases hr), fun _ => ?_⟩, w.2.put z oq (hA h)⟩
  rw [e1, arrV_store, avJ hk, hk, hz]
  congr 2
  funext q
  by_cases hq : q = i.toNatClampNeg
  · subst hq; simp [updV, sJ, up2, vp_nar, narrow]
  · simp [updV, hq, sJ, up2]
end MM
