/-! The class: shapes of objects by handles, rows of references, copies -/
abbrev Tb : Type := List (Nat × Nat × List Nat)
def pv (o : Nat) : Nat → Nat
  | 0 => 0
  | q + 1 => o + q + 1
/-- from handle o on the cells are as the table tells: kind, length, references (0 none, else 1 + how far from o) -/
def shp (S : St) (o : Nat) (tab : Tb) : Prop := ∀ i x, tab[i]? = some x → o + i < S.1 ∧ S.2.1 (o + i) = x.1 ∧ S.2.2.1 (o + i) = x.2.1 ∧ ∀ j q, x.2.2[j]? = some q → S.2.2.2.1 (o + i) j = pv o q
theorem shn {S : St} {o : Nat} {tab : Tb} (h : shp S o tab) (i : Nat) {x : Nat × Nat × List Nat} (hi : tab[i]? = some x) : o + i < S.1 := (h i x hi).1
theorem shk {S : St} {o : Nat} {tab : Tb} (h : shp S o tab) (i : Nat) {k n : Nat} {ps : List Nat} (hi : tab[i]? = some (k, n, ps)) : S.2.1 (o + i) = k := (h i _ hi).2.1
theorem shz {S : St} {o : Nat} {tab : Tb} (h : shp S o tab) (i : Nat) {k n : Nat} {ps : List Nat} (hi : tab[i]? = some (k, n, ps)) : S.2.2.1 (o + i) = n := (h i _ hi).2.2.1
theorem shq {S : St} {o : Nat} {tab : Tb} (h : shp S o tab) (i j : Nat) {k n q : Nat} {ps : List Nat} (hi : tab[i]? = some (k, n, ps)) (hj : ps[j]? = some (q + 1)) : S.2.2.2.1 (o + i) j = o + q + 1 := (h i _ hi).2.2.2 j _ hj
def tsub (tab : Tb) (i n : Nat) : Tb := ((tab.drop i).take n).map (fun x => (x.1, x.2.1, x.2.2.map (fun q => q - i)))
theorem shp_sub {S : St} {o : Nat} {tab : Tb} (h : shp S o tab) (i n : Nat) {tab' : Tb} (he : tsub tab i n = tab') (hok : ((tab.drop i).take n).all (fun x => x.2.2.all (fun q => q == 0 || Nat.ble (i + 1) q)) = true) : shp S (o + i) tab' := by
  subst he
  intro a x hx
  unfold tsub at hx
  rw [List.getElem?_map] at hx
  obtain ⟨y, hy, rfl⟩ := Option.map_eq_some_iff.mp hx
  have hall := List.all_eq_true.mp hok y (List.mem_of_getElem? hy)
  rw [List.getElem?_take] at hy
  split at hy
  · rw [List.getElem?_drop] at hy
    obtain ⟨h1, h2, h3, h4⟩ := h (i + a) y hy
    rw [← Nat.add_assoc] at h1 h2 h3 h4
    refine ⟨h1, h2, h3, fun j q hq => ?_⟩
    rw [List.getElem?_map] at hq
    obtain ⟨q0, hq0, rfl⟩ := Option.map_eq_some_iff.mp hq
    rw [h4 j q0 hq0]
    have h5 := List.all_eq_true.mp hall q0 (List.mem_of_getElem? hq0)
    simp only [Bool.or_eq_true, beq_iff_eq] at h5
    rcases h5 with rfl | h5
    · simp [pv]
    · have h6 := Nat.le_of_ble_eq_true h5
      obtain ⟨d, rfl⟩ : ∃ d, q0 = i + 1 + d := ⟨q0 - (i + 1), by omega⟩
      rw [show i + 1 + d - i = d + 1 by omega, show i + 1 + d = (i + d) + 1 by omega]
      simp only [pv]
      omega
  · cases hy
/-- the same, to be asked -/
def shpB (S : St) (o : Nat) (tab : Tb) : Bool := (List.range tab.length).all fun i => match tab[i]? with
  | some x => Nat.ble (o + i + 1) S.1 && (S.2.1 (o + i) == x.1 && (S.2.2.1 (o + i) == x.2.1 && (List.range x.2.2.length).all fun j => match x.2.2[j]? with
    | some q => S.2.2.2.1 (o + i) j == pv o q
    | none => true))
  | none => true
theorem shp_of {S : St} {o : Nat} {tab : Tb} (h : shpB S o tab = true) : shp S o tab := by
  intro i x hx
  have hi : i < tab.length := (List.getElem?_eq_some_iff.mp hx).1
  have h1 := List.all_eq_true.mp h i (List.mem_range.mpr hi)
  rw [hx] at h1
  simp only [Bool.and_eq_true, beq_iff_eq] at h1
  obtain ⟨a1, a2, a3, a4⟩ := h1
  refine ⟨Nat.le_of_ble_eq_true a1, a2, a3, fun j q hq => ?_⟩
  have hj : j < x.2.2.length := (List.getElem?_eq_some_iff.mp hq).1
  have h2 := List.all_eq_true.mp a4 j (List.mem_range.mpr hj)
  rw [hq] at h2
  simpa using h2
/-- a TEXT: its object, its steps, its clauses -/
def tsh (S : St) (q : Nat) : Prop := (q + 2 < S.1 ∧ S.2.1 q = 7) ∧ (S.2.2.2.1 q 0 = q + 1 + 1 ∧ S.2.2.2.1 q 1 = q + 2 + 1) ∧ S.2.1 (q + 1) = 11 ∧ S.2.1 (q + 2) = 11
def tshB (S : St) (q : Nat) : Bool := (Nat.ble (q + 3) S.1 && S.2.1 q == 7) && ((S.2.2.2.1 q 0 == q + 2 && S.2.2.2.1 q 1 == q + 3) && (S.2.1 (q + 1) == 11 && S.2.1 (q + 2) == 11))
theorem tsh_of {S : St} {q : Nat} (h : tshB S q = true) : tsh S q := by
  simp only [tshB, Bool.and_eq_true, beq_iff_eq] at h
  obtain ⟨⟨a1, a2⟩, ⟨a3, a4⟩, a5, a6⟩ := h
  exact ⟨⟨Nat.le_of_ble_eq_true a1, a2⟩, ⟨a3, a4⟩, a5, a6⟩
def ash (S : St) (a : Nat) : Prop := a < S.1 ∧ S.2.1 a = 11
def ashl (S : St) (a : Nat) : Prop := a < S.1 ∧ S.2.1 a = 12
/-- a reference that may be null: each case by itself -/
def nl {α : Type} (t : Nat) (a : α) (f : Nat → α) : α := match t with
  | 0 => a
  | q + 1 => f q
theorem nl0 {α : Type} {a r : α} {f : Nat → α} (h : nl 0 a f = r) : a = r := h
theorem nls {α : Type} {q : Nat} {a r : α} {f : Nat → α} (h : nl (q + 1) a f = r) : f q = r := h
def cg {α : Type} (b : Bool) (k : Option α) : Option α := if b = true then k else none
theorem cgi {α : Type} {b : Bool} {k : Option α} {r : α} (h : cg b k = some r) : b = true ∧ k = some r := by
  unfold cg at h
  split at h
  · exact ⟨by assumption, h⟩
  · cases h
/-- a row of numbers put whole -/
def sC (V : Vt) (h : Nat) (f : Nat → Int32) : Vt := (V.1, va_up V.2.1 h f, V.2.2)
theorem Vof_sC {V : Vt} {h : Nat} {f : Nat → Int32} : Vof h V (sC V h f) := fun g hg => ⟨rfl, va_up_ne _ _ hg, rfl, rfl⟩
theorem avR {ad : Nat → Nat} {S : St} {V : Vt} {h k : Nat} (hk : S.2.1 h = k) (h1 : (k == 12) = false) (h2 : Nat.blt k 14 = false) : av ad S V h = fun i => rfv ad (V.2.2.2 h i) := by
  funext i
  have a1 : ¬ k = 12 := by simpa using h1
  have a2 : ¬ k < 14 := fun z => by
    have : Nat.blt k 14 = true := Nat.ble_eq_true_of_le z
    rw [h2] at this; cases this
  simp [av, hk, a1, a2]
def QN (D : va_G) (cy : Nat → ClassId) (ad : Nat → Nat) (A : Nat → Prop) (r : Nat) (S : St) (V : Vt) : Array Value → State → Outcome → State → Prop := fun _ st oc t => (oc = .returned (some (rfv ad r)) ∧ HM D cy ad S V t.heap) ∧ va_F A st t
section MX
variable {p : Program} {l : Launch} {e : Env} {R : Room} {s : State} {m : MethodId} {args : Array Value} {below : List Frame} {meth : Method} {c : Code} {H : Heap} {locs : List Loc} {cells slots : Nat} {Q : State → Prop}
variable {cc : ByteArray} {pc : Nat} {ls : Array Slot} {rest st0 : List Value} {own : String} {nL mc ms : Nat} {D : va_G} {cy : Nat → ClassId} {ad : Nat → Nat} {A : Nat → Prop} {Kc : State → Prop} {S S' : St} {V V' : Vt}
theorem m_cn {a : Array Value} {r : Nat} (hr : va_Run p l e R s m args below meth c H locs cells slots mc ms (F0 m pc ls st0) rest (QN D cy ad A r S' V' a) A) (w : Wd D cy ad A s.heap S V H locs)
    (kk : ∀ H' locs', Wd D cy ad A s.heap S' V' H' locs' → W p l e R s m args below meth c H' locs' (cells + mc) (slots + ms) Q (F0 m (pc + 3) ls (rfv ad r :: rest))) : W p l e R s m args below meth c H locs cells slots Q (F0 m pc ls st0) := by
  intro T hT X
  obtain ⟨v, st₀, t, T', L, h0, X', hL, e1, e2, ⟨⟨hv, hp⟩, hz, hk⟩, st⟩ := hr T hT X
  cases hv
  rw [h0] at hz hk
  have hS := w.2
  obtain ⟨t2, a1, b1⟩ := kk T'.heap (locs ++ L) ⟨by rw [e1]; exact hp, Nat.le_trans hS.1 (by rw [e1]; exact hz), fun q h1 h2 => by rw [e1, hk q (Nat.lt_of_lt_of_le h1 hS.1) h2]; exact hS.2.1 q h1 h2, fun q hq => by
      rcases List.mem_append.mp hq with h | h
      · exact hS.2.2 q h
      · exact hL q h⟩ T' rfl X'
  exact ⟨t2, st t2 a1, b1⟩
theorem m_rn0 {rt : FieldType} (X : Fx p s m args c cc own nL D cy ad A Kc) (w : Wd D cy ad A s.heap S V H locs) (hr : meth.sig.returnType = some rt) (hrt : (∃ n, rt = .object n) ∨ ∃ t, rt = .array t) (hlocks : meth.locks = false) (hdg : decode cc pc = .ok (.areturn, 1)) :
    W p l e R s m args below meth c H locs cells slots (MQ below (QN D cy ad A 0 S V) args s cells slots A) (F0 m pc ls [.null]) :=
  W.aret X.1.1 X.1.2.1 hr hrt (Or.inl rfl) (fun t ht hW => ⟨⟨rfl, by rw [ht]; exact w.1⟩, w.2.F ht⟩) w.2.2.2 hdg
theorem m_rn1 {q : Nat} {rt : FieldType} (X : Fx p s m args c cc own nL D cy ad A Kc) (w : Wd D cy ad A s.heap S V H locs) (hr : meth.sig.returnType = some rt) (hrt : (∃ n, rt = .object n) ∨ ∃ t, rt = .array t) (hlocks : meth.locks = false) (hdg : decode cc pc = .ok (.areturn, 1)) :
    W p l e R s m args below meth c H locs cells slots (MQ below (QN D cy ad A (q + 1) S V) args s cells slots A) (F0 m pc ls [.ref (ad q)]) :=
  W.aret X.1.1 X.1.2.1 hr hrt (Or.inr ⟨_, rfl⟩) (fun t ht hW => ⟨⟨rfl, by rw [ht]; exact w.1⟩, w.2.F ht⟩) w.2.2.2 hdg
theorem m_aald (X : Fx p s m args c cc own nL D cy ad A Kc) (w : Wd D cy ad A s.heap S V H locs) (h : Nat) (hn : h < S.1) {k : Nat} (hk : S.2.1 h = k) {C : String} (t : Nat) (ht : (tyA cy)[t]? = some (cy k, .object C)) (h0 : vwCl[k]? = none) (h1 : (k == 12) = false) (h2 : Nat.blt k 14 = false) {n : Nat} (hz : S.2.2.1 h = n) {i : Int32} (hin : vp_in i n) (hdg : decode cc pc = .ok (.aaload, 1))
    (kk : W p l e R s m args below meth c H locs cells slots Q (F0 m (pc + 1) ls (rfv ad (V.2.2.2 h i.toNatClampNeg) :: rest))) : W p l e R s m args below meth c H locs cells slots Q (F0 m pc ls (.int i :: .ref (ad h) :: rest)) := by
  obtain ⟨⟨hx, hb, -⟩, ho, hts, hK, -⟩ := X
  have hcell := (w.1.2 h hn).2 (by rw [hk]; exact h0)
  rw [avR hk h1 h2, hk, hz] at hcell
  have hlt : i.toNatClampNeg < n := Nat.not_le.mp fun q => hin (Or.inr q)
  exact W.aald (v := rfv ad (V.2.2.2 h i.toNatClampNeg)) (ty := .object C) hx hb hcell ((hK.1.2 t _ ht).1 n _) rfl (fun q => by cases q) (by show ¬ (i < 0 ∨ (arrV _ _ _).slots.size ≤ _); rw [arrV_size]; exact hin) (by show (arrV _ _ _).slots[_]? = _; rw [arrV_read _ _ hlt]) rfl rfl hdg kk
theorem m_aast (X : Fx p s m args c cc own nL D cy ad A Kc) (w : Wd D cy ad A s.heap S V H locs) (h : Nat) (hn : h < S.1) {k : Nat} (hk : S.2.1 h = k) (t : Nat) (h0 : vwCl[k]? = none) (h1 : (k == 12) = false) (h2 : Nat.blt k 14 = false) {n : Nat} (hz : S.2.2.1 h = n) {i : Int32} (hin : vp_in i n)
    (v : Nat) (hvn : v < S.1) {ci : Nat} (hvk : S.2.1 v = ci) {r : vw_C} (hc : vwCl[ci]? = some r) (ht : (tyA cy)[t]? = some (cy k, .object r.1)) (hdg : decode cc pc = .ok (.aastore, 1))
    (kk : ∀ V' H' locs', V' = sR V h i.toNatClampNeg (v + 1) → Wd D cy ad A s.heap S V' H' locs' → W p l e R s m args below meth c H' locs' cells slots Q (F0 m (pc + 1) ls rest)) : W p l e R s m args below meth c H locs cells slots Q (F0 m pc ls (.ref (ad v) :: .int i :: .ref (ad h) :: rest)) := by
  obtain ⟨⟨hx, hb, -⟩, ho, hts, hK, hinj, hA, -⟩ := X
  subst hvk
  have hcell := (w.1.2 h hn).2 (by rw [hk]; exact h0)
  rw [avR hk h1 h2, hk, hz] at hcell
  have hlt : i.toNatClampNeg < n := Nat.not_le.mp fun q => hin (Or.inr q)
  have hi0 : ¬ i < 0 := fun q => hin (Or.inl q)
  obtain ⟨cellV, g1, g2, g3, -⟩ := (w.1.2 v hvn).1 _ hc
  have hcls := (hK.1.1 _ r hc).2
  obtain ⟨kA, comp, k1, k2, k3, -⟩ := (hK.1.2 t _ ht).2
  have hcomp : comp = D.1 (S.2.1 v) := Option.some.inj (k3.symm.trans hcls.1)
  subst hcomp
  obtain ⟨kC, hkC, -⟩ := hcls.2
  refine W.aast hx hb hcell (fun q h => by cases h) (fun h => by cases h) k1 k2 rfl hkC ⟨hi0, by show _ < (arrV _ _ _).slots.size; rw [arrV_size]; exact hlt⟩ g1 (fun q h => by rw [g3] at h; cases h) (by rw [g2]; exact hkC) (by rw [g2]; exact va_assign hcls) rfl rfl hdg fun H1 e1 z oq => ?_
  refine kk _ H1 _ rfl ⟨w.1.up hinj h z Vof_sR oq ⟨fun r hr => (by rw [hk, h0] at hr; cases hr), fun _ => ?_⟩, w.2.put z oq (hA h)⟩
  rw [e1, arrV_store, avR hk h1 h2, hk, hz]
  congr 2
  funext q
  by_cases hq : q = i.toNatClampNeg
  · subst hq; simp [updV, sR, up2, rfv]
  · simp [updV, hq, sR, up2]
theorem m_aastN (X : Fx p s m args c cc own nL D cy ad A Kc) (w : Wd D cy ad A s.heap S V H locs) (h : Nat) (hn : h < S.1) {k : Nat} (hk : S.2.1 h = k) {C : String} (t : Nat) (ht : (tyA cy)[t]? = some (cy k, .object C)) (h0 : vwCl[k]? = none) (h1 : (k == 12) = false) (h2 : Nat.blt k 14 = false) {n : Nat} (hz : S.2.2.1 h = n) {i : Int32} (hin : vp_in i n) (hdg : decode cc pc = .ok (.aastore, 1))
    (kk : ∀ V' H' locs', V' = sR V h i.toNatClampNeg 0 → Wd D cy ad A s.heap S V' H' locs' → W p l e R s m args below meth c H' locs' cells slots Q (F0 m (pc + 1) ls rest)) : W p l e R s m args below meth c H locs cells slots Q (F0 m pc ls (.null :: .int i :: .ref (ad h) :: rest)) := by
  obtain ⟨⟨hx, hb, -⟩, ho, hts, hK, hinj, hA, -⟩ := X
  have hcell := (w.1.2 h hn).2 (by rw [hk]; exact h0)
  rw [avR hk h1 h2, hk, hz] at hcell
  refine va_WaastN (C := C) hx hb hcell ((hK.1.2 t _ ht).1 n _) (fun h => by cases h) (by show ¬ (i < 0 ∨ (arrV _ _ _).slots.size ≤ _); rw [arrV_size]; exact hin) rfl rfl hdg fun H1 e1 z oq => ?_
  refine kk _ H1 _ rfl ⟨w.1.up hinj h z Vof_sR oq ⟨fun r hr => (by rw [hk, h0] at hr; cases hr), fun _ => ?_⟩, w.2.put z oq (hA h)⟩
  rw [e1, arrV_store, avR hk h1 h2, hk, hz]
  congr 2
  funext q
  by_cases hq : q = i.toNatClampNeg
  · subst hq; simp [updV, sR, up2, rfv]
  · simp [updV, hq, sR, up2]
/-- System.arraycopy over rows of ints -/
theorem m_copy {lv : List (Nat × Value)} (X : Fx p s m args c cc own nL D cy ad A Kc) (w : Wd D cy ad A s.heap S V H locs) (hl : lv_has ls nL lv) {index : Nat} (hlink : Cond.methodLink own index arraycopyName ∈ gw) (hnat : Cond.native arraycopyName ∈ gw) (hstat : Cond.static arraycopyName ∈ gw) (hini : Cond.initialized "java/lang/System" ∈ gw)
    (h0 h1 : Nat) (hn0 : h0 < S.1) (hn1 : h1 < S.1) (hk0 : S.2.1 h0 = 11) (hk1 : S.2.1 h1 = 11) {n0 n1 : Nat} (hz0 : S.2.2.1 h0 = n0) (hz1 : S.2.2.1 h1 = n1)
    {sp dp n : Int32} (g1 : ¬ sp < 0) (g2 : ¬ dp < 0) (g3 : ¬ n < 0) (g4 : sp.toNatClampNeg + n.toNatClampNeg ≤ n0) (g5 : dp.toNatClampNeg + n.toNatClampNeg ≤ n1)
    (hframes : 1 ≤ R.frames) (hlocals : (rest.map fun v => v.category).sum + (nativeFrameWords "java/lang/System" "arraycopy" 5 + 11) ≤ R.locals) (hdg : decode cc pc = .ok (.invokestatic index, 3))
    (kk : ∀ V' H' locs', V' = sC V h1 (va_cpy (V.2.1 h0) (V.2.1 h1) sp.toNatClampNeg dp.toNatClampNeg n.toNatClampNeg) → Wd D cy ad A s.heap S V' H' locs' → W p l e R s m args below meth c H' locs' cells slots Q (F0 m (pc + 3) ls rest)) : W p l e R s m args below meth c H locs cells slots Q (F0 m pc ls (.int n :: .int dp :: .ref (ad h1) :: .int sp :: .ref (ad h0) :: rest)) := by
  obtain ⟨⟨hx, hb, hml⟩, ho, hts, hK, hinj, hA, -⟩ := X
  have nn : ∀ z : Int32, ¬ z < 0 → z.toInt = (z.toNatClampNeg : Int) := by
    intro z hz
    have hz0 : (0 : Int) ≤ z.toInt := by
      have := Int32.not_lt.mp hz
      simpa using Int32.le_iff_toInt_le.mp this
    show z.toInt = ((z.toInt.toNat : Nat) : Int)
    omega
  have hc0 := (w.1.2 h0 hn0).2 (by rw [hk0]; rfl)
  have hc1 := (w.1.2 h1 hn1).2 (by rw [hk1]; rfl)
  rw [avI hk0 rfl rfl, hk0, hz0] at hc0
  rw [avI hk1 rfl rfl, hk1, hz1] at hc1
  intro T hT X
  obtain ⟨-, k0, kk0, cm0, hkk0⟩ := (hK.1.2 1 (cy 11, .int) rfl).1 n0 (fun j => .int (V.2.1 h0 j))
  obtain ⟨-, k1, kk1, cm1, hkk1⟩ := (hK.1.2 1 (cy 11, .int) rfl).1 n1 (fun j => .int (V.2.1 h1 j))
  obtain ⟨vm', X', step⟩ := X.arraycopy hx ho (hts _ hlink) (hts _ hnat) (hts _ hstat) (hts _ hini) (src := ad h0) (dst := ad h1) (cs := arrV (cy 11) n0 (fun j => .int (V.2.1 h0 j))) (cd := arrV (cy 11) n1 (fun j => .int (V.2.1 h1 j))) (srcPos := sp) (destPos := dp) (n := n) (by rw [hT]; exact hc0) (by rw [hT]; exact hc1)
    (fun _ h => by cases h) (fun _ h => by cases h) (fun h => by cases h) (fun h => by cases h) kk0 kk1 hkk0 hkk1 (by simp [refKind]) g1 g2 g3
    (by rw [nn sp g1, nn n g3]; show ¬ _ > ((arrV (cy 11) n0 _).slots.size : Int); rw [arrV_size]; omega)
    (by rw [nn dp g2, nn n g3]; show ¬ _ > ((arrV (cy 11) n1 _).slots.size : Int); rw [arrV_size]; omega)
    (fun vm₁ _ i hi => by
      have e : (arrV (cy 11) n0 (fun j => .int (V.2.1 h0 j))).slots.getD (sp.toNatClampNeg + i) .null = .int (V.2.1 h0 (sp.toNatClampNeg + i)) := by
        rw [Array.getD_eq_getD_getElem?, arrV_read _ _ (by omega)]
        rfl
      refine ⟨?_, ?_⟩
      · rw [e]
        rfl
      · rw [e]
        exact trivial)
    (g := F0 m pc ls (.int n :: .int dp :: .ref (ad h1) :: .int sp :: .ref (ad h0) :: rest)) rfl (by rw [hml]; exact hl.1) (rest := rest) rfl (by rw [hb]; exact hdg) hframes (by show 2 * 0 + _ + _ ≤ _; omega)
  have e1 : copied (arrV (cy 11) n0 (fun j => .int (V.2.1 h0 j))) (arrV (cy 11) n1 (fun j => .int (V.2.1 h1 j))) sp dp n = arrV (cy 11) n1 (fun j => .int (va_cpy (V.2.1 h0) (V.2.1 h1) sp.toNatClampNeg dp.toNatClampNeg n.toNatClampNeg j)) := va_copied (fun z => .int z) (cy 11) (cy 11) (V.2.1 h0) (V.2.1 h1) g4
  rw [e1] at X' step
  have hl9 : ad h1 < H.size := (Array.getElem?_eq_some_iff.mp hc1).1
  have hheap : ((T.setVm vm').setCell (ad h1) (arrV (cy 11) n1 (fun j => .int (va_cpy (V.2.1 h0) (V.2.1 h1) sp.toNatClampNeg dp.toNatClampNeg n.toNatClampNeg j)))).heap = H.setIfInBounds (ad h1) (arrV (cy 11) n1 (fun j => .int (va_cpy (V.2.1 h0) (V.2.1 h1) sp.toNatClampNeg dp.toNatClampNeg n.toNatClampNeg j))) := by rw [← hT]; rfl
  have oq : ∀ q : Nat, q ≠ ad h1 → (H.setIfInBounds (ad h1) (arrV (cy 11) n1 (fun j => .int (va_cpy (V.2.1 h0) (V.2.1 h1) sp.toNatClampNeg dp.toNatClampNeg n.toNatClampNeg j))))[q]? = H[q]? := fun q hq => by simp [Array.getElem?_setIfInBounds, Ne.symm hq]
  obtain ⟨t, a1, b1⟩ := kk _ _ _ rfl ⟨w.1.up hinj h1 (by simp) Vof_sC oq ⟨fun r hr => (by rw [hk1] at hr; cases hr), fun _ => (by
      rw [avI hk1 rfl rfl, hk1, hz1]
      simp [Array.getElem?_setIfInBounds, hl9, sC, va_up])⟩, ⟨by simp; exact w.2.1, fun q g1 g2 => by
      rw [oq q (fun e => g2 (by rw [e]; exact hA h1))]
      exact w.2.2.1 q g1 g2, fun q hq => by
      rcases List.mem_append.mp hq with h | h
      · exact w.2.2.2 q h
      · obtain ⟨z, -, hz⟩ := List.mem_map.mp h
        rw [← hz]
        exact hA h1⟩⟩ _ hheap X'
  exact ⟨t, step t a1, b1⟩
end MX
