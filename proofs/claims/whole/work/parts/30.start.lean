/-! The law from its entry -/
def St0 (z : Nat) : St := (0, fun _ => 99, fun _ => 0, fun _ _ => 0, z)
def Vz : Vt := (fun _ _ => 0, fun _ _ => 0, fun _ _ => 0, fun _ _ => 0)
def setZ (S : St) (z : Nat) : St := (S.1, S.2.1, S.2.2.1, S.2.2.2.1, z)
def Start (N b0 : Nat) (Rel : St → Vt → Vt → Prop) : Prop := ∃ (S1 : St) (V1 : Vt) (S2 : St) (V2 : Vt), f_X8_init N (adX b0) (nwO (St0 b0) 8) (zV Vz 0) 0 = some (S1, V1) ∧ S1.1 = 64 ∧ S1.2.2.2.2 = b0 + 64 ∧ f_X9_init N (adM b0) (nwO (St0 (b0 + 64)) 9) (zV Vz 0) 0 = some (S2, V2) ∧ S2.1 = 25 ∧ (∀ h, h < 25 → S2.2.1 h = (SM 0).2.1 h ∧ S2.2.2.1 h = (SM 0).2.2.1 h ∧ S2.2.2.2.1 h = (SM 0).2.2.2.1 h) ∧ S2.2.2.2.2 = b0 + 89 ∧ Rel (setZ S1 (b0 + 89)) V1 V2
theorem HM0 {D : va_G} {cy : Nat → ClassId} {ad : Nat → Nat} {H : Heap} {z : Nat} (hz : H.size = z) : HM D cy ad (St0 z) Vz H := ⟨hz, fun h hh => absurd hh (Nat.not_lt_zero h)⟩
theorem HM.toSM {D : va_G} {cy : Nat → ClassId} {ad : Nat → Nat} {S : St} {V : Vt} {H : Heap} (h : HM D cy ad S V H) (hn : S.1 = 25) (he : ∀ g, g < 25 → S.2.1 g = (SM 0).2.1 g ∧ S.2.2.1 g = (SM 0).2.2.1 g ∧ S.2.2.2.1 g = (SM 0).2.2.2.1 g) : HM D cy ad (SM H.size) V H := by
  refine ⟨rfl, fun g hg => ?_⟩
  have hg2 : g < 25 := hg
  obtain ⟨e1, e2, e3⟩ := he g hg2
  have h1 := h.2 g (by rw [hn]; exact hg2)
  have f1 : fv ad (SM H.size) V g = fv ad S V g := by
    funext j
    show (if isR ((SM 0).2.1 g) j then rfv ad ((SM 0).2.2.2.1 g j) else _) = (if isR (S.2.1 g) j then rfv ad (S.2.2.2.1 g j) else _)
    rw [e1, e3]
  have f2 : av ad (SM H.size) V g = av ad S V g := by
    funext j
    show (if (SM 0).2.1 g = 12 then _ else if (SM 0).2.1 g < 14 then _ else _) = (if S.2.1 g = 12 then _ else if S.2.1 g < 14 then _ else _)
    rw [e1]
  have k1 : (SM H.size).2.1 g = S.2.1 g := e1.symm
  have z1 : (SM H.size).2.2.1 g = S.2.2.1 g := e2.symm
  exact ⟨fun r hr => by rw [f1, k1]; exact h1.1 r (by rw [← k1]; exact hr), fun hno => by rw [f2, k1, z1]; exact h1.2 (by rw [← k1]; exact hno)⟩
section MST
variable {p : Program} {l : Launch} {e : Env} {R : Room} {s : State} {m : MethodId} {args : Array Value} {below : List Frame} {meth : Method} {c : Code} {H : Heap} {locs : List Loc} {cells slots : Nat} {Q : State → Prop}
variable {cc : ByteArray} {pc : Nat} {ls : Array Slot} {rest st0 As : List Value} {own C : String} {nL index : Nat} {D : va_G} {cy : Nat → ClassId} {ad : Nat → Nat} {A : Nat → Prop} {Kc : State → Prop} {S S' : St} {V V' : Vt}
theorem m_new2 (X : Fx p s m args c cc own nL D cy ad A Kc) (w : Wd D cy ad A s.heap S V H locs) (hz : ad S.1 = S.2.2.2.2) {ci : Nat} {T : u_T} {N : Nat} {ty : Nat → FieldType} (I : CI ci C T N ty) (hd : ∀ j, j < N → defaultValue (ty j) = if isR ci j then .null else .int 0) (hcl : Cond.classLink own index C ∈ gw) (hins : Cond.instantiable C N ∈ gw) (hini : Cond.initialized C ∈ gw) (hdg : decode cc pc = .ok (.new index, 3)) (hcells : cells + 1 ≤ R.cells) (hslots : slots + N ≤ R.slots)
    (kk : ∀ S' V' H', S' = nwO S ci → V' = zV V S.1 → Wd D cy ad A s.heap S' V' H' locs → (∀ q, q < H.size → H'[q]? = H[q]?) → H.size ≤ H'.size → W p l e R s m args below meth c H' locs (cells + 1) (slots + N) Q (F0 m (pc + 3) ls (.ref (ad S.1) :: rest))) : W p l e R s m args below meth c H locs cells slots Q (F0 m pc ls rest) := by
  obtain ⟨⟨hx, hb, -⟩, ho, hts, hK, hinj, hA, -⟩ := X
  obtain ⟨hci, hin, hty, -⟩ := I
  have hKn := hK.1.1 ci _ hci
  refine W.newcK hx hb ho (hts _ hcl) (hts _ hins) (hts _ hini) rfl hdg hcells hslots hKn.2.1 (h := ad S.1) (by rw [hz]; exact w.1.1) fun H1 kC hkC e1 z1 o1 => ?_
  have hsz : H.size = ad S.1 := by rw [hz]; exact w.1.1
  refine kk _ _ H1 rfl rfl ⟨w.1.grow rfl rfl gr_nwO (by rw [z1, hsz]) (by rw [hsz]; exact o1) ⟨fun r hr => ?_, fun hn => ?_⟩, Nat.le_trans w.2.1 (by omega), fun x h1 h2 => (o1 x (by rw [← hsz]; exact Nat.lt_of_lt_of_le h1 w.2.1)).trans (w.2.2.1 x h1 h2), w.2.2.2⟩ (by rw [hsz]; exact o1) (by omega)
  · have hk : (nwO S ci).2.1 S.1 = ci := va_up_self _ _ _
    rw [hk] at hr ⊢
    have hr2 : r = (C, T, N) := Option.some.inj (hr.symm.trans hci)
    subst hr2
    refine (u_born ty hts hin hKn hkC e1 hty).to (fun j hj => ?_)
    rw [hd j hj]
    simp only [fv, hk]
    have e2 : (nwO S ci).2.2.2.1 S.1 j = 0 := by show va_up S.2.2.2.1 S.1 (fun _ => 0) S.1 j = 0; rw [va_up_self]
    have e3 : (zV V S.1).1 S.1 j = 0 := by show va_up V.1 S.1 (fun _ => 0) S.1 j = 0; rw [va_up_self]
    rw [e2, e3]
    rfl
  · have hk : (nwO S ci).2.1 S.1 = ci := va_up_self _ _ _
    rw [hk, hci] at hn
    cases hn
end MST
set_option maxHeartbeats 4000000 in
set_option maxRecDepth 100000 in
theorem start_go {p : Program} {e : Env} {s : State} {m : MethodId} {below : List Frame} {meth : Method} {c : Code} (l : Launch) {b L : Nat} {xs : Nat → Int32} (hL : L ≤ 3072) (C0 : lw_At p s m meth c b L xs) (N : Nat) (Rel : St → Vt → Vt → Prop) (ops : Ops N s.heap.size Rel) (hst : Start N s.heap.size Rel) : W p l e room_1 s m #[Value.ref b] below meth c s.heap [] 0 0 (lw_Z below #[Value.ref b] s) (entryFrame m ([Value.ref b] : List Value).toArray 4) := by
  obtain ⟨hx, hb, hr, hml, hown, hts, hX, hbl, hlocks, hgv⟩ := id C0
  have htg : ∀ w ∈ gw, w.before #[Value.ref b] s = true := fun w hw => hts w (gw_tbl hw)
  have ht : ∀ w ∈ tables_1, w.before #[Value.ref b] s = true := fun w hw => hts w (List.mem_append_right _ hw)
  obtain ⟨D, cy, hK⟩ := kk_of hts
  obtain ⟨aK, aV, hKX⟩ := kx_of ht hgv (A := AX s.heap.size) (fun a ha h => absurd (AX_ge h) (Nat.not_le.mpr ha))
  obtain ⟨aKm, aVm, hKM⟩ := kx_of ht hgv (A := AM s.heap.size) (fun a ha h => absurd (AM_ge h) (Nat.not_le.mpr ha))
  have CX : Cx (adX s.heap.size) (AX s.heap.size) (KX (AX s.heap.size) aK aV) := cxX (adX_inj _) (adX_A _)
  have CM : Cx (adM s.heap.size) (AM s.heap.size) (KX (AM s.heap.size) aKm aVm) := cxX (adM_inj _) (adM_A _)
  have XX : Fx p s m #[Value.ref b] c code RL 4 D cy (adX s.heap.size) (AX s.heap.size) (KX (AX s.heap.size) aK aV) := ⟨⟨hx, hb, hml⟩, hown, htg, hK, CX.1, CX.2.1, CX.2.2.1 s hKX, CX.2.2.2⟩
  have XM : Fx p s m #[Value.ref b] c code RL 4 D cy (adM s.heap.size) (AM s.heap.size) (KX (AM s.heap.size) aKm aVm) := ⟨⟨hx, hb, hml⟩, hown, htg, hK, CM.1, CM.2.1, CM.2.2.1 s hKM, CM.2.2.2⟩
  obtain ⟨S1, V1, S2, V2, hf1, hn1, hz1, hf2, hn2, he2, hzz9, hR⟩ := hst
  have hl := lv_entry ([.ref b]) (n := 4) (Nat.le_of_ble_eq_true rfl)
  rw [lg_entry_eq]
  generalize (lg_sl ([.ref b]) ++ List.replicate (4 - (lg_sl ([.ref b])).length) Slot.unset).toArray = ls at hl ⊢
  have hl : lv_has ls 4 [(0, .ref b)] := hl
  have w0 : Wd D cy (adX s.heap.size) (AX s.heap.size) s.heap (St0 s.heap.size) Vz s.heap [] := ⟨HM0 rfl, va_S.rf⟩
  have hz0 : adX s.heap.size 0 = s.heap.size := by simp [adX]
  refine m_new2 XX w0 hz0 ci8 dv_8 cl_L_7 in_8 ii_8 dL_law_0 (Nat.le_of_ble_eq_true rfl) (Nat.le_of_ble_eq_true rfl) (fun Sa Va Ha eS eV wa oa za => ?_)
  subst eS
  subst eV
  refine W.widen (k := 1) (n := 19) (Nat.le_of_ble_eq_true rfl) (Nat.le_of_ble_eq_true rfl) ?_
  refine lv_dup hx hb dL_law_3 rfl ?_
  refine va_callv (m_rI (As := []) (rest := [.ref (adX s.heap.size 0)]) XX wa hl mi_X8_init ml_L_9 (adX s.heap.size 0) (c_X8_init l D cy (adX s.heap.size) (AX s.heap.size) aK aV CX N _ _ 0 S1 V1 hf1) ⟨⟨rfl, rfl, Nat.le_of_ble_eq_true rfl, Nat.le_of_ble_eq_true rfl⟩, Nat.le_of_ble_eq_true rfl, Nat.le_of_ble_eq_true rfl⟩ rfl rfl (Nat.le_of_ble_eq_true rfl) dL_law_4) wa.2 (fun _ _ h => h) (fun _ h => h) (fun u t H1 locs1 ht1 hvm hp hB hzz hk hSS => ?_)
  refine va_forget (fun q hq => AX_ge (hSS.2.2 q hq)) ?_
  have hM1 : HM D cy (adX s.heap.size) S1 V1 H1 := by rw [← ht1]; exact hB
  have o1 : ∀ q, q < s.heap.size → H1[q]? = s.heap[q]? := fun q hq => hSS.2.1 q hq (fun z => absurd (AX_ge z) (Nat.not_le.mpr hq))
  refine lv_astore_n (lv' := [(1, .ref (adX s.heap.size 0)), (0, .ref b)]) hx hb dL_law_7 rfl hl (by decide) rfl (fun ls hl => ?_)
  have hs1 : H1.size = s.heap.size + 64 := hM1.1.trans hz1
  have w1 : Wd D cy (adM s.heap.size) (AM s.heap.size) s.heap (St0 (s.heap.size + 64)) Vz H1 [] := ⟨HM0 hs1, by omega, fun q h _ => o1 q h, fun l hl => by cases hl⟩
  have hz2 : adM s.heap.size 0 = s.heap.size + 64 := by simp [adM]
  refine W.widen (k := 64) (n := 4900) (Nat.le_of_ble_eq_true rfl) (Nat.le_of_ble_eq_true rfl) ?_
  refine m_new2 XM w1 hz2 ci9 dv_9 cl_L_10 in_9 ii_9 dL_law_8 (Nat.le_of_ble_eq_true rfl) (Nat.le_of_ble_eq_true rfl) (fun Sb Vb Hb eS eV wb ob zb => ?_)
  subst eS
  subst eV
  refine W.widen (k := 65) (n := 5000) (Nat.le_of_ble_eq_true rfl) (Nat.le_of_ble_eq_true rfl) ?_
  refine lv_dup hx hb dL_law_11 rfl ?_
  refine va_callv (m_rI (As := []) (rest := [.ref (adM s.heap.size 0)]) XM wb hl mi_X9_init ml_L_12 (adM s.heap.size 0) (c_X9_init l D cy (adM s.heap.size) (AM s.heap.size) aKm aVm CM N _ _ 0 S2 V2 hf2) ⟨⟨rfl, rfl, Nat.le_of_ble_eq_true rfl, Nat.le_of_ble_eq_true rfl⟩, Nat.le_of_ble_eq_true rfl, Nat.le_of_ble_eq_true rfl⟩ rfl rfl (Nat.le_of_ble_eq_true rfl) dL_law_12) wb.2 (fun _ _ h => h) (fun _ h => h) (fun u2 t2 H2 locs2 ht2 hvm2 hp2 hB2 hzz2 hk2 hSS2 => ?_)
  refine va_forget (fun q hq => AM_ge (hSS2.2.2 q hq)) ?_
  have hM2 : HM D cy (adM s.heap.size) S2 V2 H2 := by rw [← ht2]; exact hB2
  have o2 : ∀ q, q < s.heap.size → H2[q]? = s.heap[q]? := fun q hq => hSS2.2.1 q hq (fun z => absurd (AM_ge z) (Nat.not_le.mpr hq))
  refine lv_astore_n (lv' := [(2, .ref (adM s.heap.size 0)), (1, .ref (adX s.heap.size 0)), (0, .ref b)]) hx hb dL_law_15 rfl hl (by decide) rfl (fun ls hl => ?_)
  refine lv_iconst (v := 0) hx hb dL_law_16 (by decide) ?_
  refine lv_istore_n (lv' := [(3, .int 0), (2, .ref (adM s.heap.size 0)), (1, .ref (adX s.heap.size 0)), (0, .ref b)]) hx hb dL_law_17 rfl hl (by decide) rfl (fun ls hl => ?_)
  have hX2 : ∀ h, h < S1.1 → hc D cy (adX s.heap.size) S1 V1 h H2 := by
    intro h hh
    have g1 := hM1.2 h hh
    have g2 := g1.kept (ob _ g1.lt)
    exact g2.kept (hk2 _ g2.lt (adX_nM (by omega)))
  refine W.widen (k := 100 + 12 * 0) (n := 30000 + 600 * 0) (Nat.le_of_ble_eq_true rfl) (Nat.le_of_ble_eq_true rfl) ?_
  exact law_loop l hL C0 hK hKX hKM N Rel ops 513 0 rfl (Nat.zero_le _) 0 nI_0.symm (setZ S1 (s.heap.size + 89)) V1 V2 H2 ⟨⟨hM2.1.trans hzz9, hX2⟩, hM2.toSM hn2 he2, (by have := hM2.1; omega), o2, (by show S1.1 ≤ 100000; omega)⟩ hR (by show S1.1 ≤ _; omega) ls (lv_sub hl [3, 2, 1, 0] rfl)
