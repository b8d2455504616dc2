/-! Cells that are made -/
def nwO (S : St) (ci : Nat) : St := (S.1 + 1, va_up S.2.1 S.1 ci, S.2.2.1, va_up S.2.2.2.1 S.1 (fun _ => 0), S.2.2.2.2 + 1)
def nwA (S : St) (k n : Nat) : St := (S.1 + 1, va_up S.2.1 S.1 k, va_up S.2.2.1 S.1 n, S.2.2.2.1, S.2.2.2.2 + 1)
def stP (S : St) (h j q : Nat) : St := (S.1, S.2.1, S.2.2.1, up2 S.2.2.2.1 h j q, S.2.2.2.2)
def zV (V : Vt) (h : Nat) : Vt := (va_up V.1 h (fun _ => 0), va_up V.2.1 h (fun _ => 0), va_up V.2.2.1 h (fun _ => 0), va_up V.2.2.2 h (fun _ => 0))
def ooB (S : St) (o ci : Nat) : Bool := Nat.blt o S.1 && S.2.1 o == ci
theorem ooB_of {S : St} {o ci : Nat} (h : ooB S o ci = true) : o < S.1 ∧ S.2.1 o = ci := by
  simp only [ooB, Bool.and_eq_true, beq_iff_eq] at h
  exact ⟨Nat.le_of_ble_eq_true h.1, h.2⟩
def aaB (S : St) (o k n : Nat) : Bool := Nat.blt o S.1 && (S.2.1 o == k && S.2.2.1 o == n)
theorem aaB_of {S : St} {o k n : Nat} (h : aaB S o k n = true) : o < S.1 ∧ S.2.1 o = k ∧ S.2.2.1 o = n := by
  simp only [aaB, Bool.and_eq_true, beq_iff_eq] at h
  exact ⟨Nat.le_of_ble_eq_true h.1, h.2⟩
def oa {α β : Type} (o : Option (α × St × Vt)) (k : α → St → Vt → Option β) : Option β := match o with
  | none => none
  | some q => k q.1 q.2.1 q.2.2
theorem oai {α β : Type} {o : Option (α × St × Vt)} {k : α → St → Vt → Option β} {z : β} (h : oa o k = some z) : ∃ r S V, o = some (r, S, V) ∧ k r S V = some z := by
  cases o with
  | none => cases h
  | some q => exact ⟨q.1, q.2.1, q.2.2, rfl, h⟩
def oav {β : Type} (o : Option (St × Vt)) (k : St → Vt → Option β) : Option β := match o with
  | none => none
  | some q => k q.1 q.2
theorem oavi {β : Type} {o : Option (St × Vt)} {k : St → Vt → Option β} {z : β} (h : oav o k = some z) : ∃ S V, o = some (S, V) ∧ k S V = some z := by
  cases o with
  | none => cases h
  | some q => exact ⟨q.1, q.2, rfl, h⟩
theorem retA {α : Type} {x r : α} {S S' : St} {V V' : Vt} (h : some (x, S, V) = some (r, S', V')) : x = r ∧ S = S' ∧ V = V' := by
  have := Option.some.inj h
  exact ⟨congrArg Prod.fst this, congrArg (fun q => q.2.1) this, congrArg (fun q => q.2.2) this⟩
theorem retAv {S S' : St} {V V' : Vt} (h : some (S, V) = some (S', V')) : S = S' ∧ V = V' := by
  have := Option.some.inj h
  exact ⟨congrArg Prod.fst this, congrArg Prod.snd this⟩
theorem hc.lt {D : va_G} {cy : Nat → ClassId} {ad : Nat → Nat} {S : St} {V : Vt} {h : Nat} {H : Heap} (hh : hc D cy ad S V h H) : ad h < H.size := by
  cases hc : vwCl[S.2.1 h]? with
  | none => exact (Array.getElem?_eq_some_iff.mp (hh.2 hc)).1
  | some r =>
    obtain ⟨cell, h2, -⟩ := hh.1 r hc
    exact (Array.getElem?_eq_some_iff.mp h2).1
/-- all but the handle n is said alike -/
def Gr (n : Nat) (S S' : St) (V V' : Vt) : Prop := ∀ g, g ≠ n → S'.2.1 g = S.2.1 g ∧ S'.2.2.1 g = S.2.2.1 g ∧ S'.2.2.2.1 g = S.2.2.2.1 g ∧ V'.1 g = V.1 g ∧ V'.2.1 g = V.2.1 g ∧ V'.2.2.1 g = V.2.2.1 g ∧ V'.2.2.2 g = V.2.2.2 g
theorem hc.gr {D : va_G} {cy : Nat → ClassId} {ad : Nat → Nat} {S S' : St} {V V' : Vt} {n g : Nat} {H : Heap} (hv : Gr n S S' V V') (hg : g ≠ n) (hh : hc D cy ad S V g H) : hc D cy ad S' V' g H := by
  obtain ⟨e1, e2, e3, e4, e5, e6, e7⟩ := hv g hg
  have f1 : fv ad S' V' g = fv ad S V g := by funext j; simp [fv, e1, e3, e4]
  have f2 : av ad S' V' g = av ad S V g := by funext j; simp [av, e1, e5, e6, e7]
  exact ⟨fun r hr => by rw [f1, e1]; exact hh.1 r (by rw [← e1]; exact hr), fun hn => by rw [f2, e1, e2]; exact hh.2 (by rw [← e1]; exact hn)⟩
theorem HM.grow {D : va_G} {cy : Nat → ClassId} {ad : Nat → Nat} {S S' : St} {V V' : Vt} {H H1 : Heap} (hM : HM D cy ad S V H) (hn : S'.1 = S.1 + 1) (hz : S'.2.2.2.2 = S.2.2.2.2 + 1) (hg : Gr S.1 S S' V V') (z1 : H1.size = H.size + 1) (o1 : ∀ q, q < H.size → H1[q]? = H[q]?) (hnew : hc D cy ad S' V' S.1 H1) : HM D cy ad S' V' H1 := by
  refine ⟨by rw [z1, hz, hM.1], fun h hh => ?_⟩
  by_cases he : h = S.1
  · subst he; exact hnew
  · have hlt : h < S.1 := by omega
    exact ((hM.2 h hlt).gr hg he).kept (o1 _ (hM.2 h hlt).lt)
theorem gr_nwO {S : St} {V : Vt} {ci : Nat} : Gr S.1 S (nwO S ci) V (zV V S.1) := fun g hg => ⟨va_up_ne _ _ hg, rfl, va_up_ne _ _ hg, va_up_ne _ _ hg, va_up_ne _ _ hg, va_up_ne _ _ hg, va_up_ne _ _ hg⟩
theorem gr_nwA {S : St} {V : Vt} {k n : Nat} : Gr S.1 S (nwA S k n) V (zV V S.1) := fun g hg => ⟨va_up_ne _ _ hg, va_up_ne _ _ hg, rfl, va_up_ne _ _ hg, va_up_ne _ _ hg, va_up_ne _ _ hg, va_up_ne _ _ hg⟩
section MA
variable {p : Program} {l : Launch} {e : Env} {R : Room} {s : State} {m : MethodId} {args : Array Value} {below : List Frame} {meth : Method} {c : Code} {H : Heap} {locs : List Loc} {cells slots : Nat} {Q : State → Prop}
variable {cc : ByteArray} {pc : Nat} {ls : Array Slot} {rest st0 As : List Value} {own C : String} {nL index : Nat} {D : va_G} {cy : Nat → ClassId} {ad : Nat → Nat} {A : Nat → Prop} {Kc : State → Prop} {S S' : St} {V V' : Vt}
theorem m_new (X : Fx p s m args c cc own nL D cy ad A Kc) (w : Wd D cy ad A s.heap S V H locs) (hz : ad S.1 = S.2.2.2.2) {ci : Nat} {T : u_T} {N : Nat} {ty : Nat → FieldType} (I : CI ci C T N ty) (hd : ∀ j, j < N → defaultValue (ty j) = if isR ci j then .null else .int 0) (hcl : Cond.classLink own index C ∈ gw) (hins : Cond.instantiable C N ∈ gw) (hini : Cond.initialized C ∈ gw) (hdg : decode cc pc = .ok (.new index, 3)) (hcells : cells + 1 ≤ R.cells) (hslots : slots + N ≤ R.slots)
    (kk : ∀ S' V' H' locs', S' = nwO S ci → V' = zV V S.1 → Wd D cy ad A s.heap S' V' H' locs' → W p l e R s m args below meth c H' locs' (cells + 1) (slots + N) Q (F0 m (pc + 3) ls (.ref (ad S.1) :: rest))) : W p l e R s m args below meth c H locs cells slots Q (F0 m pc ls rest) := by
  obtain ⟨⟨hx, hb, -⟩, ho, hts, hK, hinj, hA, -⟩ := X
  obtain ⟨hci, hin, hty, -⟩ := I
  have hKn := hK.1.1 ci _ hci
  refine W.newcK hx hb ho (hts _ hcl) (hts _ hins) (hts _ hini) rfl hdg hcells hslots hKn.2.1 (h := ad S.1) (by rw [hz]; exact w.1.1) fun H1 kC hkC e1 z1 o1 => ?_
  have hsz : H.size = ad S.1 := by rw [hz]; exact w.1.1
  refine kk _ _ H1 locs rfl rfl ⟨w.1.grow rfl rfl gr_nwO (by rw [z1, hsz]) (by rw [hsz]; exact o1) ⟨fun r hr => ?_, fun hn => ?_⟩, Nat.le_trans w.2.1 (by omega), fun x h1 h2 => (o1 x (by rw [← hsz]; exact Nat.lt_of_lt_of_le h1 w.2.1)).trans (w.2.2.1 x h1 h2), w.2.2.2⟩
  · have hk : (nwO S ci).2.1 S.1 = ci := va_up_self _ _ _
    rw [hk] at hr ⊢
    have hr2 : r = (C, T, N) := Option.some.inj (hr.symm.trans hci)
    subst hr2
    refine (u_born ty hts hin hKn hkC e1 hty).to (fun j hj => ?_)
    rw [hd j hj]
    simp only [fv, hk]
    have e2 : (nwO S ci).2.2.2.1 S.1 j = 0 := by show va_up S.2.2.2.1 S.1 (fun _ => 0) S.1 j = 0; rw [va_up_self]
    have e3 : (zV V S.1).1 S.1 j = 0 := by show va_up V.1 S.1 (fun _ => 0) S.1 j = 0; rw [va_up_self]
    rw [e2, e3]
    rfl
  · have hk : (nwO S ci).2.1 S.1 = ci := va_up_self _ _ _
    rw [hk, hci] at hn
    cases hn
theorem m_newa (X : Fx p s m args c cc own nL D cy ad A Kc) (w : Wd D cy ad A s.heap S V H locs) (hz : ad S.1 = S.2.2.2.2) {atype : ArrayType} {ty : FieldType} (hty : newarray.typeOf atype = ty) (k t : Nat) (ht : (tyA cy)[t]? = some (cy k, ty)) (hnm : va_RA s (cy k) ty → s.vm.findClass ("[" ++ ty.toString) = some (cy k)) (h0 : vwCl[k]? = none) (hav : ∀ (S : St) (V : Vt) (h : Nat), S.2.1 h = k → V.2.1 h = (fun _ => 0) → V.2.2.1 h = (fun _ => 0) → av ad S V h = fun _ => defaultValue ty)
    (harr : Cond.arrayClass ty ∈ gw) {n : Int32} {N' : Nat} (hn : ¬ n < 0) (hN : n.toNatClampNeg = N') (hbytes : N' * componentBytes ty ≤ 536870912) (hcells : cells + 1 ≤ R.cells) (hslots : slots + N' ≤ R.slots) (hdg : decode cc pc = .ok (.newarray atype, 2))
    (kk : ∀ S' V' H' locs', S' = nwA S k N' → V' = zV V S.1 → Wd D cy ad A s.heap S' V' H' locs' → W p l e R s m args below meth c H' locs' (cells + 1) (slots + N') Q (F0 m (pc + 2) ls (.ref (ad S.1) :: rest))) : W p l e R s m args below meth c H locs cells slots Q (F0 m pc ls (.int n :: rest)) := by
  obtain ⟨⟨hx, hb, -⟩, ho, hts, hK, hinj, hA, -⟩ := X
  subst hty
  have hsz : H.size = ad S.1 := by rw [hz]; exact w.1.1
  refine va_newaK hx hb (hts _ harr) rfl hdg rfl hn hN hbytes hcells hslots hsz fun H1 cA e1 z1 o1 hAr hNm => ?_
  have hcA : cA = cy k := Option.some.inj (hNm.symm.trans (hnm (hK.1.2 t _ ht).2))
  subst hcA
  refine kk _ _ H1 locs rfl rfl ⟨w.1.grow rfl rfl gr_nwA (by rw [z1, hsz]) (by rw [hsz]; exact o1) ⟨fun r hr => ?_, fun _ => ?_⟩, Nat.le_trans w.2.1 (by omega), fun x h1 h2 => (o1 x (by rw [← hsz]; exact Nat.lt_of_lt_of_le h1 w.2.1)).trans (w.2.2.1 x h1 h2), w.2.2.2⟩
  · have hk : (nwA S k N').2.1 S.1 = k := va_up_self _ _ _
    rw [hk, h0] at hr
    cases hr
  · have hk : (nwA S k N').2.1 S.1 = k := va_up_self _ _ _
    have hz2 : (nwA S k N').2.2.1 S.1 = N' := va_up_self _ _ _
    rw [hav _ _ _ hk (va_up_self _ _ _) (va_up_self _ _ _), hk, hz2]
    exact e1
theorem m_newq (X : Fx p s m args c cc own nL D cy ad A Kc) (w : Wd D cy ad A s.heap S V H locs) (hz : ad S.1 = S.2.2.2.2) (k t : Nat) (ht : (tyA cy)[t]? = some (cy k, .object C)) (h0 : vwCl[k]? = none) (h1 : (k == 12) = false) (h2 : Nat.blt k 14 = false) (hcl : Cond.classLink own index C ∈ gw) (hover : va_AO C s) {n : Int32} {N' : Nat} (hn : ¬ n < 0) (hN : n.toNatClampNeg = N') (hbytes : N' * 4 ≤ 536870912) (hcells : cells + 1 ≤ R.cells) (hslots : slots + N' ≤ R.slots) (hdg : decode cc pc = .ok (.anewarray index, 3))
    (kk : ∀ S' V' H' locs', S' = nwA S k N' → V' = zV V S.1 → Wd D cy ad A s.heap S' V' H' locs' → W p l e R s m args below meth c H' locs' (cells + 1) (slots + N') Q (F0 m (pc + 3) ls (.ref (ad S.1) :: rest))) : W p l e R s m args below meth c H locs cells slots Q (F0 m pc ls (.int n :: rest)) := by
  obtain ⟨⟨hx, hb, -⟩, ho, hts, hK, hinj, hA, -⟩ := X
  subst hN
  have hsz : H.size = ad S.1 := by rw [hz]; exact w.1.1
  refine W.anew hx hb ho (hts _ hcl) (va_AO.use hover) rfl hdg rfl hn hbytes hcells hslots fun cA kA comp f1 f2 f3 f4 => ?_
  rw [hsz]
  generalize hH1 : H.push ({ cls := cA, slots := Array.replicate n.toNatClampNeg .null, vm := .none } : Cell) = H1
  have z1 : H1.size = H.size + 1 := by rw [← hH1, Array.size_push]
  have e1 : H1[ad S.1]? = some (arrV cA n.toNatClampNeg (fun _ => .null)) := by rw [← hsz, ← hH1, Array.getElem?_push_size, ← arrV_new]
  have o1 : ∀ q : Nat, q < H.size → H1[q]? = H[q]? := fun q hq => by rw [← hH1, Array.getElem?_push, if_neg (Nat.ne_of_lt hq)]
  obtain ⟨kA2, comp2, g1, g2, g3, g4⟩ := (hK.1.2 t _ ht).2
  have hcA : cA = cy k := Option.some.inj (f1.symm.trans g4)
  subst hcA
  refine kk _ _ H1 locs rfl rfl ⟨w.1.grow rfl rfl gr_nwA z1 o1 ⟨fun r hr => ?_, fun _ => ?_⟩, Nat.le_trans w.2.1 (by omega), fun x h1 h2 => (o1 x (Nat.lt_of_lt_of_le h1 w.2.1)).trans (w.2.2.1 x h1 h2), w.2.2.2⟩
  · have hk : (nwA S k n.toNatClampNeg).2.1 S.1 = k := va_up_self _ _ _
    rw [hk, h0] at hr
    cases hr
  · have hk : (nwA S k n.toNatClampNeg).2.1 S.1 = k := va_up_self _ _ _
    have hz2 : (nwA S k n.toNatClampNeg).2.2.1 S.1 = n.toNatClampNeg := va_up_self _ _ _
    have e9 : av ad (nwA S k n.toNatClampNeg) (zV V S.1) S.1 = fun _ => .null := by
      rw [avR hk h1 h2]
      funext i
      show rfv ad (va_up V.2.2.2 S.1 (fun _ => 0) S.1 i) = .null
      rw [va_up_self]; rfl
    rw [e9, hk, hz2]
    exact e1
/-- a final reference put in a constructor -/
theorem m_putR (X : Fx p s m args c cc own nL D cy ad A Kc) (w : Wd D cy ad A s.heap S V H locs) (h : Nat) (hn : h < S.1) {ci : Nat} (hk : S.2.1 h = ci) {T : u_T} {N : Nat} {ty : Nat → FieldType} (I : CI ci C T N ty) (j : Nat) (hj : j < N) (hr : isR ci j = true) {q : Nat} (hT : (T j).1 = C) (hoC : own = C) (hfin : (T j).2.2.2 = true) (hin2 : meth.name = "<init>") (hnr : narrow (ty j) (.ref (ad q)) = .ref (ad q)) (hft : fits (ty j) (.ref (ad q)) = true) (hlink : Cond.fieldLink own index C (T j).2.1 (T j).2.2.1 ∈ gw) (hdg : decode cc pc = .ok (.putfield index, 3))
    (kk : ∀ S' H' locs', S' = stP S h j (q + 1) → Wd D cy ad A s.heap S' V H' locs' → W p l e R s m args below meth c H' locs' cells slots Q (F0 m (pc + 3) ls rest)) : W p l e R s m args below meth c H locs cells slots Q (F0 m pc ls (.ref (ad q) :: .ref (ad h) :: rest)) := by
  subst hk
  subst hoC
  obtain ⟨⟨hx, hb, -⟩, ho, hts, hK, hinj, hA, -⟩ := X
  obtain ⟨hcl, hin, hty, hnm⟩ := I
  have hap := va_apart (own := own) hts hin ty hty hnm hK.1 hcl
  obtain ⟨cell, q1, q2, q3, q4⟩ := (w.1.2 h hn).1 _ hcl
  obtain ⟨hS, hfc, kC, hkC, hkind⟩ := hK.1.1 _ _ hcl
  obtain ⟨cf, kf, fi, f, hi, hsl⟩ := hS j hj
  have hlay := hts _ (hin _ (u_in_lay hj))
  unfold u_lay at hlay
  rw [if_pos hfin] at hlay
  have hst := (u_facts hfc hkC (u_lays hts hin hj) hi).1
  have hcf : m.cls = cf := by
    obtain ⟨_, _, c', _, _, _, -, -, hf', -, -, -, hown2, -⟩ := Cond.laysFinal_spec hlay
    have e1 : c' = cf := by have := hi.symm.trans hf'; simp at this; exact this.1.symm
    rw [hT] at hown2
    rw [← e1]; exact Option.some.inj (ho.symm.trans hown2)
  have h6 := u_fits hfc hkC hkind (Or.inr hlay) hi (hty j hj) hnr hft
  rw [hT] at hi
  refine W.putFinK hx hb ho (hts _ hlink) hi hst hcf hin2 (by rw [q2]; exact h6) q1 q3 (by rw [hsl]; exact k2_hasslot (q4 j hj)) rfl rfl hdg fun H' e1 e2 e3 => ?_
  rw [hsl] at e1 ⊢
  refine kk _ H' _ rfl ⟨⟨e2.trans w.1.1, fun g hg => ?_⟩, w.2.put e2 e3 (hA h)⟩
  by_cases hgh : g = h
  · subst hgh
    refine ⟨fun r hr2 => ?_, fun hno => ?_⟩
    · have hr3 : r = (own, T, N) := Option.some.inj (hr2.symm.trans hcl)
      subst hr3
      refine t_OB.to (V := updV (fv ad S V g) j (.ref (ad q))) ⟨_, e1, q2, q3, t_set q4 hap hj _⟩ (fun i _ => ?_)
      by_cases hij : i = j
      · subst hij; simp [updV, fv, hr, stP, up2, rfv]
      · simp [updV, hij, fv, stP, up2]
    · have hno' : vwCl[S.2.1 g]? = none := hno
      rw [hcl] at hno'; cases hno'
  · have h9 := w.1.2 g hg
    have f1 : fv ad (stP S h j (q + 1)) V g = fv ad S V g := by funext i; simp [fv, stP, up2, hgh]
    have h10 : hc D cy ad (stP S h j (q + 1)) V g H := ⟨fun r hr2 => by rw [f1]; exact h9.1 r hr2, fun hno => h9.2 hno⟩
    exact h10.kept (e3 _ (fun e => hgh (hinj _ _ e)))
/-- a final whole number put in a constructor -/
theorem m_putF (X : Fx p s m args c cc own nL D cy ad A Kc) (w : Wd D cy ad A s.heap S V H locs) (h : Nat) (hn : h < S.1) {ci : Nat} (hk : S.2.1 h = ci) {T : u_T} {N : Nat} {ty : Nat → FieldType} (I : CI ci C T N ty) (j : Nat) (hj : j < N) (hr : isR ci j = false) {x : Int32} (hT : (T j).1 = C) (hoC : own = C) (hfin : (T j).2.2.2 = true) (hin2 : meth.name = "<init>") (hnr : narrow (ty j) (.int x) = .int x) (hft : fits (ty j) (.int x) = true) (hlink : Cond.fieldLink own index C (T j).2.1 (T j).2.2.1 ∈ gw) (hdg : decode cc pc = .ok (.putfield index, 3))
    (kk : ∀ V' H' locs', V' = sF V h j x → Wd D cy ad A s.heap S V' H' locs' → W p l e R s m args below meth c H' locs' cells slots Q (F0 m (pc + 3) ls rest)) : W p l e R s m args below meth c H locs cells slots Q (F0 m pc ls (.int x :: .ref (ad h) :: rest)) := by
  subst hk
  subst hoC
  obtain ⟨⟨hx, hb, -⟩, ho, hts, hK, hinj, hA, -⟩ := X
  obtain ⟨hcl, hin, hty, hnm⟩ := I
  have hap := va_apart (own := own) hts hin ty hty hnm hK.1 hcl
  obtain ⟨cell, q1, q2, q3, q4⟩ := (w.1.2 h hn).1 _ hcl
  obtain ⟨hS, hfc, kC, hkC, hkind⟩ := hK.1.1 _ _ hcl
  obtain ⟨cf, kf, fi, f, hi, hsl⟩ := hS j hj
  have hlay := hts _ (hin _ (u_in_lay hj))
  unfold u_lay at hlay
  rw [if_pos hfin] at hlay
  have hst := (u_facts hfc hkC (u_lays hts hin hj) hi).1
  have hcf : m.cls = cf := by
    obtain ⟨_, _, c', _, _, _, -, -, hf', -, -, -, hown2, -⟩ := Cond.laysFinal_spec hlay
    have e1 : c' = cf := by have := hi.symm.trans hf'; simp at this; exact this.1.symm
    rw [hT] at hown2
    rw [← e1]; exact Option.some.inj (ho.symm.trans hown2)
  have h6 := u_fits hfc hkC hkind (Or.inr hlay) hi (hty j hj) hnr hft
  rw [hT] at hi
  refine W.putFinK hx hb ho (hts _ hlink) hi hst hcf hin2 (by rw [q2]; exact h6) q1 q3 (by rw [hsl]; exact k2_hasslot (q4 j hj)) rfl rfl hdg fun H' e1 e2 e3 => ?_
  rw [hsl] at e1 ⊢
  refine kk _ H' _ rfl ⟨w.1.up hinj h e2 Vof_sF e3 ⟨fun r hr2 => ?_, fun hno => by rw [hcl] at hno; cases hno⟩, w.2.put e2 e3 (hA h)⟩
  have hr3 : r = (own, T, N) := Option.some.inj (hr2.symm.trans hcl)
  subst hr3
  refine t_OB.to (V := updV (fv ad S V h) j (.int x)) ⟨_, e1, q2, q3, t_set q4 hap hj _⟩ (fun i _ => ?_)
  by_cases hij : i = j
  · subst hij; simp [updV, fv, hr, sF, up2]
  · simp [updV, hij, fv, sF, up2]
end MA
