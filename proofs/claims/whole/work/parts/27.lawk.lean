/-! The classes' numbers and what is only read, at the law's entry -/
theorem ws_cs : Cond.laysStatic "java/lang/String" "COMPACT_STRINGS" "Z" ∈ tables_1 := by exact List.mem_of_getElem? (i := 466) (by decide +kernel)
theorem ws_si : Cond.laysStatic "jdk/internal/util/Preconditions" "SIOOBE_FORMATTER" "Ljava/util/function/BiFunction;" ∈ tables_1 := by exact List.mem_of_getElem? (i := 482) (by decide +kernel)
theorem ws_mo : Cond.laysStatic "LedgerHounds" "MOST_OF_TERM" "[I" ∈ tables_1 := by exact List.mem_of_getElem? (i := 412) (by decide +kernel)
theorem wi_st : Cond.initialized "java/lang/String" ∈ tables_1 := by exact List.mem_of_getElem? (i := 11) (by decide +kernel)
theorem wi_pr : Cond.initialized "jdk/internal/util/Preconditions" ∈ tables_1 := by exact List.mem_of_getElem? (i := 13) (by decide +kernel)
theorem wi_lh : Cond.initialized "LedgerHounds" ∈ tables_1 := by exact List.mem_of_getElem? (i := 1) (by decide +kernel)
theorem wo_bk : Cond.arrayOver (.object "LedgerHounds$Book") ∈ tables_1 := by exact List.mem_of_getElem? (i := 105) (by decide +kernel)
theorem wo_tx : Cond.arrayOver (.object "LedgerHounds$Text") ∈ tables_1 := by exact List.mem_of_getElem? (i := 34) (by decide +kernel)
theorem wc_cl : Cond.castable "[I" "java/lang/Cloneable" ∈ tables_1 := by exact List.mem_of_getElem? (i := 602) (by decide +kernel)
theorem kx_of {args : Array Value} {s : State} (ht : ∀ w ∈ tables_1, w.before args s = true) (hgv : (Jvm.Cond.and given_1 narrow_1).before args s = true) {A : Nat → Prop} (hA : ∀ a : Nat, a < s.heap.size → ¬ A a) : ∃ aK aV : Nat → Nat, KX A aK aV s := by
  have hf := flat_of_before _ hgv
  obtain ⟨aK, aV, hS, hev⟩ := vk_Sof (args := args) (s := s) (N := 20) (tm := tmS) (len := kLen) (byt := kByt) (A := A) fs_len (fun i hi => hf _ (fs_ex i hi)) (fun i hi => hf _ (fs_co i hi)) (fun i hi => hf _ (fs_ar i hi)) (fun i hi => hf _ (fs_le i hi)) (fun i hi j hj => hf _ (fs_el i hi j hj)) (fun i j hi hj hne => (fs_ne i j hi hj hne).elim (fun h => Or.inl (hf _ h)) (fun h => Or.inr (hf _ h))) hA
  obtain ⟨t, ht9, hT⟩ := va_Tof (args := args) (s := s) (tm := .static "LedgerHounds" "MOST_OF_TERM" "[I") (ty := .int) (N := 3) (f := fun j => .int (tMost.getD j 0)) (A := A) (by decide) (hf _ fm_ar) (va_eqt (hf _ fm_le)) (fun j hj => va_eqt (hf _ (fm_el j hj))) hA
  refine ⟨aK, aV, hS, fun i x hx => ?_, va_Zof (ht _ ws_cs) (ht _ wi_st) (va_eqt (hf _ fm_cs)) hA, va_Zqof (ht _ ws_si) (ht _ wi_pr) (hf _ fm_si) hA, ⟨t, va_Zof (ht _ ws_mo) (ht _ wi_lh) ht9 hA, hT⟩, va_AO.of (ht _ wo_bk), va_AO.of (ht _ wo_tx), va_Nw.of rfl (ht _ wc_cl)⟩
  obtain ⟨hi, e1, e2, e3⟩ := kt_ix i x hx
  obtain ⟨x1, x2, x3⟩ := x
  simp only at e1 e2 e3
  subst e1
  subst e2
  refine ⟨?_, ?_⟩
  · first
      | exact va_tabs rfl rfl (ht _ e3)
      | (have h1 := ht _ e3; simp only [Cond.before, Cond.holds, Cond.value, State.names, State.poolOf?, State.resolvedAt?] at h1 ⊢; exact h1)
  · have h2 := hev i hi
    first
      | exact h2
      | (rw [Term.string_eval_of_vm (args := #[]) rfl]; exact h2)
      | (simpa [tmS, Term.eval] using h2)
theorem gw_tbl {w : Cond} (h : w ∈ gw) : w ∈ lw_tbl := (List.mem_filter.mp h).1
theorem ar_of {args : Array Value} {s : State} {ty : FieldType} (h : (Cond.arrayClass ty).before args s = true) : ∃ cA : ClassId, ArrOfT s cA ty ∧ s.vm.findClass ("[" ++ ty.toString) = some cA := by
  obtain ⟨cA, kA, comp, h1, h2, h3⟩ := Cond.arrayClass_spec h
  exact ⟨cA, fun n z => ⟨(fun k h => by cases h), kA, h2, comp, h3⟩, h1⟩
theorem ao_of {args : Array Value} {s : State} {C : String} (h : (Cond.arrayOver (.object C)).before args s = true) : ∃ cA : ClassId, ArrOfT s cA (.object C) ∧ va_RA s cA (.object C) := by
  obtain ⟨comp, cA, kA, h1, h2, h3, h4, h5⟩ := Cond.arrayOver_spec h
  exact ⟨cA, fun n z => ⟨(fun k h => by cases h), kA, h3, comp, h4⟩, kA, comp, h3, h4, h1, h5⟩
def pick {α : Type} (l : List α) (d : α) (k : Nat) : α := l.getD k d
theorem kk_of {args : Array Value} {s : State} (hts : ∀ w ∈ lw_tbl, w.before args s = true) : ∃ (D : va_G) (cy : Nat → ClassId), KK D cy s := by
  have htg : ∀ w ∈ gw, w.before args s = true := fun w hw => hts w (gw_tbl hw)
  have ht : ∀ w ∈ tables_1, w.before args s = true := fun w hw => hts w (List.mem_append_right _ hw)
  obtain ⟨c0, i0, k0⟩ := u_known (C := RX0) (T := TX0) (N := 14) (n := 14) htg ci0.2.1 (htg _ in_0)
  obtain ⟨c1, i1, k1⟩ := u_known (C := RX1) (T := TX1) (N := 2) (n := 2) htg ci1.2.1 (htg _ in_1)
  obtain ⟨c2, i2, k2⟩ := u_known (C := RX2) (T := TX2) (N := 3) (n := 3) htg ci2.2.1 (htg _ in_2)
  obtain ⟨c3, i3, k3⟩ := u_known (C := RX3) (T := TX3) (N := 5) (n := 5) htg ci3.2.1 (htg _ in_3)
  obtain ⟨c4, i4, k4⟩ := u_known (C := RX4) (T := TX4) (N := 2) (n := 2) htg ci4.2.1 (htg _ in_4)
  obtain ⟨c5, i5, k5⟩ := u_known (C := RX5) (T := TX5) (N := 12) (n := 12) htg ci5.2.1 (htg _ in_5)
  obtain ⟨c6, i6, k6⟩ := u_known (C := RX6) (T := TX6) (N := 2) (n := 2) htg ci6.2.1 (htg _ in_6)
  obtain ⟨c7, i7, k7⟩ := u_known (C := RX7) (T := TX7) (N := 3) (n := 3) htg ci7.2.1 (htg _ in_7)
  obtain ⟨c8, i8, k8⟩ := u_known (C := RX8) (T := TX8) (N := 19) (n := 19) htg ci8.2.1 (htg _ in_8)
  obtain ⟨c9, i9, k9⟩ := u_known (C := RX9) (T := TX9) (N := 50) (n := 50) htg ci9.2.1 (htg _ in_9)
  obtain ⟨y10, ay10, ny10⟩ := ar_of (htg _ ac_byte)
  obtain ⟨y11, ay11, ny11⟩ := ar_of (htg _ ac_int)
  obtain ⟨y12, ay12, ny12⟩ := ar_of (htg _ ac_long)
  obtain ⟨y13, ay13, ny13⟩ := ar_of (htg _ ac_boolean)
  obtain ⟨y14, ay14, ny14⟩ := ao_of (ht _ wo_bk)
  obtain ⟨y15, ay15, ny15⟩ := ao_of (ht _ wo_tx)
  refine ⟨(pick [c0, c1, c2, c3, c4, c5, c6, c7, c8, c9] c0, pick [i0, i1, i2, i3, i4, i5, i6, i7, i8, i9] i0), pick [c0, c0, c0, c0, c0, c0, c0, c0, c0, c0, y10, y11, y12, y13, y14, y15] c0, ⟨fun k q hq => ?_, fun k q hq => ?_⟩, fun w hw => ?_⟩
  · match k, hq with
    | 0, hq => cases hq; exact k0
    | 1, hq => cases hq; exact k1
    | 2, hq => cases hq; exact k2
    | 3, hq => cases hq; exact k3
    | 4, hq => cases hq; exact k4
    | 5, hq => cases hq; exact k5
    | 6, hq => cases hq; exact k6
    | 7, hq => cases hq; exact k7
    | 8, hq => cases hq; exact k8
    | 9, hq => cases hq; exact k9
    | n + 10, hq => cases hq
  · match k, hq with
    | 0, hq => cases hq; exact ⟨ay10, ny10⟩
    | 1, hq => cases hq; exact ⟨ay11, ny11⟩
    | 2, hq => cases hq; exact ⟨ay12, ny12⟩
    | 3, hq => cases hq; exact ⟨ay13, ny13⟩
    | 4, hq => cases hq; exact ⟨ay14, ny14⟩
    | 5, hq => cases hq; exact ⟨ay15, ny15⟩
    | n + 6, hq => cases hq
  · have h1 := List.mem_filter.mp hw
    have h2 := ht w h1.1
    have h3 := h1.2
    cases w <;> first | exact va_Nw.of rfl h2 | (simp [isNest] at h3)
