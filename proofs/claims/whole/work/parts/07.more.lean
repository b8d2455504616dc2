theorem ct_go {l : Launch} {D : va_G} {cy : Nat → ClassId} {ad : Nat → Nat} {A : Nat → Prop} {Kc : State → Prop} (C : Cx ad A Kc) {y : MethodName} {cc : ByteArray} {nL : Nat} {ret : Option FieldType} {rm : Room} {S : St} {V : Vt} {avs : List Value} {Qc : Array Value → State → Outcome → State → Prop} {mc ms : Nat} {own : String}
    (ho : y.cls = own) (hy : plainName y.cls = true) (hlen : Nat.ble (lg_sl avs).length nL = true)
    (body : ∀ p e s m below meth c ls H locs, Fx p s m avs.toArray c cc own nL D cy ad A Kc → meth.sig.returnType = ret → meth.locks = false → meth.name = y.name → lv_has ls nL (lv_args 0 avs) → Wd D cy ad A s.heap S V H locs →
      W p l e rm s m avs.toArray below meth c H locs 0 0 (MQ below Qc avs.toArray s mc ms A) (F0 m 0 ls [])) : Met l y (mw y cc nL ret) rm (PreM D cy ad Kc S V avs) Qc mc ms A :=
  ct_of C ho hy hlen (fun p e s m below meth c ls X hr hlocks hnm hl w => body p e s m below meth c ls s.heap [] X hr hlocks hnm hl w)
def obv {β : Type} (o : Option Vt) (k : Vt → Option β) : Option β := match o with
  | none => none
  | some q => k q
theorem obvi {β : Type} {o : Option Vt} {k : Vt → Option β} {z : β} (h : obv o k = some z) : ∃ V, o = some V ∧ k V = some z := by
  cases o with
  | none => cases h
  | some q => exact ⟨q, rfl, h⟩
def ob1 {α β : Type} (o : Option α) (k : α → Option β) : Option β := match o with
  | none => none
  | some q => k q
theorem ob1i {α β : Type} {o : Option α} {k : α → Option β} {z : β} (h : ob1 o k = some z) : ∃ r, o = some r ∧ k r = some z := by
  cases o with
  | none => cases h
  | some q => exact ⟨q, rfl, h⟩
theorem sw_out {lo hi : Int} {x : Int32} (ks : List Int32) (hk : (List.range (hi - lo + 1).toNat).all (fun i => ks.any (fun q => q.toInt == lo + (i : Int))) = true) (h : ∀ q ∈ ks, ¬ x = q) : x.toInt < lo ∨ hi < x.toInt := by
  rcases Int.lt_or_le x.toInt lo with h1 | h1
  · exact Or.inl h1
  rcases Int.lt_or_le hi x.toInt with h2 | h2
  · exact Or.inr h2
  have h3 := List.all_eq_true.mp hk (x.toInt - lo).toNat (List.mem_range.mpr (by omega))
  obtain ⟨q, hq, hq2⟩ := List.any_eq_true.mp h3
  have h4 : q.toInt = lo + ((x.toInt - lo).toNat : Int) := by simpa using hq2
  refine absurd ?_ (h q hq)
  exact Int32.toInt_inj.mp (by omega)
section M7
variable {p : Program} {l : Launch} {e : Env} {R : Room} {s : State} {m : MethodId} {args : Array Value} {below : List Frame} {meth : Method} {c : Code} {H : Heap} {locs : List Loc} {cells slots : Nat} {Q : State → Prop}
variable {cc : ByteArray} {pc : Nat} {ls : Array Slot} {rest : List Value} {own : String} {nL : Nat} {D : va_G} {cy : Nat → ClassId} {ad : Nat → Nat} {A : Nat → Prop} {Kc : State → Prop} {S : St} {V : Vt}
theorem m_alenB {v : Int32} (X : Fx p s m args c cc own nL D cy ad A Kc) (w : Wd D cy ad A s.heap S V H locs) (h : Nat) (hn : h < S.1) (hk : S.2.1 h = 10) {n : Nat} (hz : S.2.2.1 h = n) (hv : n.toInt32 = v) (hdg : decode cc pc = .ok (.arraylength, 1))
    (kk : W p l e R s m args below meth c H locs cells slots Q (F0 m (pc + 1) ls (.int v :: rest))) : W p l e R s m args below meth c H locs cells slots Q (F0 m pc ls (.ref (ad h) :: rest)) := by
  obtain ⟨⟨hx, hb, -⟩, ho, hts, hK, -⟩ := X
  have hcell := (w.1.2 h hn).2 (by rw [hk]; rfl)
  rw [avI hk rfl rfl, hk, hz] at hcell
  exact W.alen hx hb hcell ((hK.1.2 0 (cy 10, .byte) rfl).1 n _) (by rw [arrV_size]; exact hv) rfl rfl hdg kk
theorem m_alenI {v : Int32} (X : Fx p s m args c cc own nL D cy ad A Kc) (w : Wd D cy ad A s.heap S V H locs) (h : Nat) (hn : h < S.1) (hk : S.2.1 h = 11) {n : Nat} (hz : S.2.2.1 h = n) (hv : n.toInt32 = v) (hdg : decode cc pc = .ok (.arraylength, 1))
    (kk : W p l e R s m args below meth c H locs cells slots Q (F0 m (pc + 1) ls (.int v :: rest))) : W p l e R s m args below meth c H locs cells slots Q (F0 m pc ls (.ref (ad h) :: rest)) := by
  obtain ⟨⟨hx, hb, -⟩, ho, hts, hK, -⟩ := X
  have hcell := (w.1.2 h hn).2 (by rw [hk]; rfl)
  rw [avI hk rfl rfl, hk, hz] at hcell
  exact W.alen hx hb hcell ((hK.1.2 1 (cy 11, .int) rfl).1 n _) (by rw [arrV_size]; exact hv) rfl rfl hdg kk
theorem m_alenL {v : Int32} (X : Fx p s m args c cc own nL D cy ad A Kc) (w : Wd D cy ad A s.heap S V H locs) (h : Nat) (hn : h < S.1) (hk : S.2.1 h = 12) {n : Nat} (hz : S.2.2.1 h = n) (hv : n.toInt32 = v) (hdg : decode cc pc = .ok (.arraylength, 1))
    (kk : W p l e R s m args below meth c H locs cells slots Q (F0 m (pc + 1) ls (.int v :: rest))) : W p l e R s m args below meth c H locs cells slots Q (F0 m pc ls (.ref (ad h) :: rest)) := by
  obtain ⟨⟨hx, hb, -⟩, ho, hts, hK, -⟩ := X
  have hcell := (w.1.2 h hn).2 (by rw [hk]; rfl)
  rw [avJ hk, hk, hz] at hcell
  exact W.alen hx hb hcell ((hK.1.2 2 (cy 12, .long) rfl).1 n _) (by rw [arrV_size]; exact hv) rfl rfl hdg kk
theorem m_alenZ {v : Int32} (X : Fx p s m args c cc own nL D cy ad A Kc) (w : Wd D cy ad A s.heap S V H locs) (h : Nat) (hn : h < S.1) (hk : S.2.1 h = 13) {n : Nat} (hz : S.2.2.1 h = n) (hv : n.toInt32 = v) (hdg : decode cc pc = .ok (.arraylength, 1))
    (kk : W p l e R s m args below meth c H locs cells slots Q (F0 m (pc + 1) ls (.int v :: rest))) : W p l e R s m args below meth c H locs cells slots Q (F0 m pc ls (.ref (ad h) :: rest)) := by
  obtain ⟨⟨hx, hb, -⟩, ho, hts, hK, -⟩ := X
  have hcell := (w.1.2 h hn).2 (by rw [hk]; rfl)
  rw [avI hk rfl rfl, hk, hz] at hcell
  exact W.alen hx hb hcell ((hK.1.2 3 (cy 13, .boolean) rfl).1 n _) (by rw [arrV_size]; exact hv) rfl rfl hdg kk
/-- a whole number put into a field (int, or a boolean that is 0 or 1) -/
theorem m_putN (X : Fx p s m args c cc own nL D cy ad A Kc) (w : Wd D cy ad A s.heap S V H locs) (h : Nat) (hn : h < S.1) {ci : Nat} (hk : S.2.1 h = ci) {C : String} {T : u_T} {N : Nat} {ty : Nat → FieldType} (I : CI ci C T N ty) (j : Nat) (hj : j < N) (hr : isR ci j = false) {x : Int32} {index : Nat} {host : String} (hown : (T j).1 = C) (hfin : (T j).2.2.2 = false) (hnr : narrow (ty j) (.int x) = .int x) (hft : fits (ty j) (.int x) = true) (hlink : Cond.fieldLinkNest own index C (T j).2.1 (T j).2.2.1 host ∈ nestW) (hdg : decode cc pc = .ok (.putfield index, 3))
    (kk : ∀ V' H' locs', V' = sF V h j x → Wd D cy ad A s.heap S V' H' locs' → W p l e R s m args below meth c H' locs' cells slots Q (F0 m (pc + 3) ls rest)) : W p l e R s m args below meth c H locs cells slots Q (F0 m pc ls (.int x :: .ref (ad h) :: rest)) := by
  subst hk
  obtain ⟨⟨hx, hb, -⟩, ho, hts, hK, hinj, hA, -⟩ := X
  obtain ⟨hcl, hin, hty, hnm⟩ := I
  have hap := va_apart (own := own) hts hin ty hty hnm hK.1 hcl
  obtain ⟨cell, q1, q2, q3, q4⟩ := (w.1.2 h hn).1 _ hcl
  obtain ⟨hS, hfc, kC, hkC, hkind⟩ := hK.1.1 _ _ hcl
  obtain ⟨cf, kf, fi, f, hi, hsl⟩ := hS j hj
  have hlay := hts _ (hin _ (u_in_lay hj))
  unfold u_lay at hlay
  rw [if_neg (by rw [hfin]; decide)] at hlay
  have hst := (u_facts hfc hkC (u_lays hts hin hj) hi).1
  have h6 := u_store hfc hkC hkind hlay hi (hty j hj) hnr hft
  refine va_WputK hx hb (f := f) ho (va_Nw.use rfl (hK.2 _ hlink)) (by rw [hown] at hi; exact hi) hst (by rw [q2]; exact h6) q1 q3 (by rw [hsl]; exact k2_hasslot (q4 j hj)) rfl rfl hdg fun H' e1 e2 e3 => ?_
  rw [hsl] at e1 ⊢
  refine kk _ H' _ rfl ⟨w.1.up hinj h e2 Vof_sF e3 ⟨fun r hr2 => ?_, fun hno => by rw [hcl] at hno; cases hno⟩, w.2.put e2 e3 (hA h)⟩
  have hr3 : r = (C, T, N) := Option.some.inj (hr2.symm.trans hcl)
  subst hr3
  refine t_OB.to (V := updV (fv ad S V h) j (.int x)) ⟨_, e1, q2, q3, t_set q4 hap hj _⟩ (fun i _ => ?_)
  by_cases hij : i = j
  · subst hij; simp [updV, fv, hr, sF, up2]
  · simp [updV, hij, fv, sF, up2]
end M7
