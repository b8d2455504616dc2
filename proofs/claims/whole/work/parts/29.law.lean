def Op_enter (N b0 : Nat) (Rel : St → Vt → Vt → Prop) : Prop := ∀ (S : St) (V Vm : Vt), Rel S V Vm → ∀ (a1 a2 : Int32), ∃ (r : Int32) (V2 : Vt) (M2 : Vt), f_X8_enter N S V 0 a1 a2 = some (r, V2) ∧ f_X9_enter N Vm a1 a2 = some (r, M2) ∧ Rel S V2 M2
def Op_at (N b0 : Nat) (Rel : St → Vt → Vt → Prop) : Prop := ∀ (S : St) (V Vm : Vt), Rel S V Vm → ∀ (a1 a2 : Int32), ∃ (r : Int32) (V2 : Vt) (M2 : Vt), f_X8_at N S V 0 a1 a2 = some (r, V2) ∧ f_X9_at N Vm a1 a2 = some (r, M2) ∧ Rel S V2 M2
def Op_told (N b0 : Nat) (Rel : St → Vt → Vt → Prop) : Prop := ∀ (S : St) (V Vm : Vt), Rel S V Vm → ∀ (a1 a2 a3 : Int32), ∃ (r : Int32) (V2 : Vt) (M2 : Vt), f_X8_told N S V 0 a1 a2 a3 = some (r, V2) ∧ f_X9_told N Vm a1 a2 a3 = some (r, M2) ∧ Rel S V2 M2
def Op_off (N b0 : Nat) (Rel : St → Vt → Vt → Prop) : Prop := ∀ (S : St) (V Vm : Vt), Rel S V Vm → ∀ (a1 a2 : Int32), ∃ (r : Int32), f_X8_off N S V 0 a1 a2 = some r ∧ f_X9_off N Vm a1 a2 = some r ∧ Rel S V Vm
def Op_clerk (N b0 : Nat) (Rel : St → Vt → Vt → Prop) : Prop := ∀ (S : St) (V Vm : Vt), Rel S V Vm → ∀ (a1 : Int32), ∃ (r : Int32) (V2 : Vt) (M2 : Vt), f_X8_clerk N S V 0 a1 = some (r, V2) ∧ f_X9_clerk N Vm a1 = some (r, M2) ∧ Rel S V2 M2
def Op_of (N b0 : Nat) (Rel : St → Vt → Vt → Prop) : Prop := ∀ (S : St) (V Vm : Vt), Rel S V Vm → ∀ (a1 a2 : Int32), ∃ (r : Int32), f_X8_of N S V 0 a1 a2 = some r ∧ f_X9_of N Vm a1 a2 = some r ∧ Rel S V Vm
def Op_asks (N b0 : Nat) (Rel : St → Vt → Vt → Prop) : Prop := ∀ (S : St) (V Vm : Vt), Rel S V Vm → ∀ (a1 a2 a3 : Int32), ∃ (r : Int32) (V2 : Vt) (M2 : Vt), f_X8_asks N S V 0 a1 a2 a3 = some (r, V2) ∧ f_X9_asks N Vm a1 a2 a3 = some (r, M2) ∧ Rel S V2 M2
def Op_terms (N b0 : Nat) (Rel : St → Vt → Vt → Prop) : Prop := ∀ (S : St) (V Vm : Vt), Rel S V Vm → ∀ (a1 a2 : Int32), ∃ (r : Int32) (V2 : Vt) (M2 : Vt), f_X8_terms N S V 0 a1 a2 = some (r, V2) ∧ f_X9_terms N Vm a1 a2 = some (r, M2) ∧ Rel S V2 M2
def Op_feed (N b0 : Nat) (Rel : St → Vt → Vt → Prop) : Prop := ∀ (S : St) (V Vm : Vt), Rel S V Vm → ∀ (a1 a2 a3 a4 a5 : Int32), ∃ (r : Int32) (V2 : Vt) (M2 : Vt), f_X8_feed N S V 0 a1 a2 a3 a4 a5 = some (r, V2) ∧ f_X9_feed N Vm a1 a2 a3 a4 a5 = some (r, M2) ∧ Rel S V2 M2
def Op_end (N b0 : Nat) (Rel : St → Vt → Vt → Prop) : Prop := ∀ (S : St) (V Vm : Vt), Rel S V Vm → ∀ (a1 : Int32), ∃ (r : Int32) (V2 : Vt) (M2 : Vt), f_X8_end N S V 0 a1 = some (r, V2) ∧ f_X9_end N Vm a1 = some (r, M2) ∧ Rel S V2 M2
def Op_row (N b0 : Nat) (Rel : St → Vt → Vt → Prop) : Prop := ∀ (S : St) (V Vm : Vt), Rel S V Vm → ∀ (_ : Unit), ∃ (r : Int32) (V2 : Vt) (M2 : Vt), f_X8_row N S V 0  = some (r, V2) ∧ f_X9_row N Vm  = some (r, M2) ∧ Rel S V2 M2
def Op_smudges (N b0 : Nat) (Rel : St → Vt → Vt → Prop) : Prop := ∀ (S : St) (V Vm : Vt), Rel S V Vm → ∀ (_ : Unit), ∃ (r : Int32), f_X8_smudges N S V 0  = some r ∧ f_X9_smudges N Vm  = some r ∧ Rel S V Vm
def Op_law (N b0 : Nat) (Rel : St → Vt → Vt → Prop) : Prop := ∀ (S : St) (V Vm : Vt), Rel S V Vm → ∀ (_ : Unit), ∃ (r : Int32) (S2 : St) (V2 : Vt) (M2 : Vt), f_X8_law N (adX b0) S V 0  = some (r, S2, V2) ∧ f_X9_law N Vm  = some (r, M2) ∧ Rel S2 V2 M2 ∧ S2.1 ≤ S.1 + 10
def Op_orders (N b0 : Nat) (Rel : St → Vt → Vt → Prop) : Prop := ∀ (S : St) (V Vm : Vt), Rel S V Vm → ∀ (_ : Unit), ∃ (r : Int32) (S2 : St) (V2 : Vt) (M2 : Vt), f_X8_orders N (adX b0) S V 0  = some (r, S2, V2) ∧ f_X9_orders N Vm  = some (r, M2) ∧ Rel S2 V2 M2 ∧ S2.1 ≤ S.1 + 10
def Op_fault (N b0 : Nat) (Rel : St → Vt → Vt → Prop) : Prop := ∀ (S : St) (V Vm : Vt), Rel S V Vm → ∀ (_ : Unit), ∃ (r : Int32), f_X8_fault N S V 0  = some r ∧ f_X9_fault N Vm  = some r ∧ Rel S V Vm
def Op_stopped (N b0 : Nat) (Rel : St → Vt → Vt → Prop) : Prop := ∀ (S : St) (V Vm : Vt), Rel S V Vm → ∀ (_ : Unit), ∃ (r : Int32), f_X8_stopped N S V 0  = some r ∧ f_X9_stopped N Vm  = some r ∧ Rel S V Vm
def Op_force (N b0 : Nat) (Rel : St → Vt → Vt → Prop) : Prop := ∀ (S : St) (V Vm : Vt), Rel S V Vm → ∀ (a1 : Int32), ∃ (r : Int32) (V2 : Vt) (M2 : Vt), f_X8_force N S V 0 a1 = some (r, V2) ∧ f_X9_force N Vm a1 = some (r, M2) ∧ Rel S V2 M2
def Op_take (N b0 : Nat) (Rel : St → Vt → Vt → Prop) : Prop := ∀ (S : St) (V Vm : Vt), Rel S V Vm → ∀ (a1 a2 : Int32), ∃ (r : Int32) (V2 : Vt) (M2 : Vt), f_X8_take N S V 0 a1 a2 = some (r, V2) ∧ f_X9_take N Vm a1 a2 = some (r, M2) ∧ Rel S V2 M2
def Op_shift (N b0 : Nat) (Rel : St → Vt → Vt → Prop) : Prop := ∀ (S : St) (V Vm : Vt), Rel S V Vm → ∀ (a1 a2 a3 : Int32), ∃ (r : Int32) (V2 : Vt) (M2 : Vt), f_X8_shift N S V 0 a1 a2 a3 = some (r, V2) ∧ f_X9_shift N Vm a1 a2 a3 = some (r, M2) ∧ Rel S V2 M2
def Op_fence (N b0 : Nat) (Rel : St → Vt → Vt → Prop) : Prop := ∀ (S : St) (V Vm : Vt), Rel S V Vm → ∀ (a1 : Int32), ∃ (r : Int32) (V2 : Vt) (M2 : Vt), f_X8_fence N S V 0 a1 = some (r, V2) ∧ f_X9_fence N Vm a1 = some (r, M2) ∧ Rel S V2 M2
def Op_pass (N b0 : Nat) (Rel : St → Vt → Vt → Prop) : Prop := ∀ (S : St) (V Vm : Vt), Rel S V Vm → ∀ (_ : Unit), ∃ (r : Int32) (V2 : Vt) (M2 : Vt), f_X8_pass N S V 0  = some (r, V2) ∧ f_X9_pass N Vm  = some (r, M2) ∧ Rel S V2 M2
def Op_undo (N b0 : Nat) (Rel : St → Vt → Vt → Prop) : Prop := ∀ (S : St) (V Vm : Vt), Rel S V Vm → ∀ (_ : Unit), ∃ (r : Int32) (V2 : Vt) (M2 : Vt), f_X8_undo N S V 0  = some (r, V2) ∧ f_X9_undo N Vm  = some (r, M2) ∧ Rel S V2 M2
def Op_fewest (N b0 : Nat) (Rel : St → Vt → Vt → Prop) : Prop := ∀ (S : St) (V Vm : Vt), Rel S V Vm → ∀ (_ : Unit), ∃ (r : Int32) (V2 : Vt) (M2 : Vt), f_X8_fewest N S V 0  = some (r, V2) ∧ f_X9_fewest N Vm  = some (r, M2) ∧ Rel S V2 M2
def Op_turned (N b0 : Nat) (Rel : St → Vt → Vt → Prop) : Prop := ∀ (S : St) (V Vm : Vt), Rel S V Vm → ∀ (a1 : Int32), ∃ (r : Int32) (V2 : Vt) (M2 : Vt), f_X8_turned N S V 0 a1 = some (r, V2) ∧ f_X9_turned N Vm a1 = some (r, M2) ∧ Rel S V2 M2
def Op_hound (N b0 : Nat) (Rel : St → Vt → Vt → Prop) : Prop := ∀ (S : St) (V Vm : Vt), Rel S V Vm → ∀ (a1 a2 : Int32), ∃ (r : Int32) (V2 : Vt) (M2 : Vt), f_X8_hound N S V 0 a1 a2 = some (r, V2) ∧ f_X9_hound N Vm a1 a2 = some (r, M2) ∧ Rel S V2 M2
def Op_ring (N b0 : Nat) (Rel : St → Vt → Vt → Prop) : Prop := ∀ (S : St) (V Vm : Vt), Rel S V Vm → ∀ (a1 a2 : Int32), ∃ (r : Int32) (V2 : Vt) (M2 : Vt), f_X8_ring N S V 0 a1 a2 = some (r, V2) ∧ f_X9_ring N Vm a1 a2 = some (r, M2) ∧ Rel S V2 M2
def Op_sources (N b0 : Nat) (Rel : St → Vt → Vt → Prop) : Prop := ∀ (S : St) (V Vm : Vt), Rel S V Vm → ∀ (a1 : Int32), ∃ (r : Int32) (V2 : Vt) (M2 : Vt), f_X8_sources N S V 0 a1 = some (r, V2) ∧ f_X9_sources N Vm a1 = some (r, M2) ∧ Rel S V2 M2
def Op_casts (N b0 : Nat) (Rel : St → Vt → Vt → Prop) : Prop := ∀ (S : St) (V Vm : Vt), Rel S V Vm → ∀ (a1 : Int32), ∃ (r : Int32) (V2 : Vt) (M2 : Vt), f_X8_casts N S V 0 a1 = some (r, V2) ∧ f_X9_casts N Vm a1 = some (r, M2) ∧ Rel S V2 M2
def Op_seen (N b0 : Nat) (Rel : St → Vt → Vt → Prop) : Prop := ∀ (S : St) (V Vm : Vt), Rel S V Vm → ∀ (a1 a2 a3 : Int32), ∃ (r : Int32) (V2 : Vt) (M2 : Vt), f_X8_seen N S V 0 a1 a2 a3 = some (r, V2) ∧ f_X9_seen N Vm a1 a2 a3 = some (r, M2) ∧ Rel S V2 M2
def Op_fits (N b0 : Nat) (Rel : St → Vt → Vt → Prop) : Prop := ∀ (S : St) (V Vm : Vt), Rel S V Vm → ∀ (_ : Unit), ∃ (r : Int32) (V2 : Vt) (M2 : Vt), f_X8_fits N S V 0  = some (r, V2) ∧ f_X9_fits N Vm  = some (r, M2) ∧ Rel S V2 M2
def Op_next (N b0 : Nat) (Rel : St → Vt → Vt → Prop) : Prop := ∀ (S : St) (V Vm : Vt), Rel S V Vm → ∀ (a1 a2 : Int32), ∃ (r : Int32) (V2 : Vt) (M2 : Vt), f_X8_next N S V 0 a1 a2 = some (r, V2) ∧ f_X9_next N Vm a1 a2 = some (r, M2) ∧ Rel S V2 M2
def Op_booked (N b0 : Nat) (Rel : St → Vt → Vt → Prop) : Prop := ∀ (S : St) (V Vm : Vt), Rel S V Vm → ∀ (a1 a2 a3 : Int32), ∃ (r : Int32) (V2 : Vt) (M2 : Vt), f_X8_booked N S V 0 a1 a2 a3 = some (r, V2) ∧ f_X9_booked N Vm a1 a2 a3 = some (r, M2) ∧ Rel S V2 M2
def Op_through (N b0 : Nat) (Rel : St → Vt → Vt → Prop) : Prop := ∀ (S : St) (V Vm : Vt), Rel S V Vm → ∀ (a1 a2 a3 : Int32), ∃ (r : Int32), f_X8_through N S V 0 a1 a2 a3 = some r ∧ f_X9_through N Vm a1 a2 a3 = some r ∧ Rel S V Vm
def Op_settled (N b0 : Nat) (Rel : St → Vt → Vt → Prop) : Prop := ∀ (S : St) (V Vm : Vt), Rel S V Vm → ∀ (_ : Unit), ∃ (r : Int32) (V2 : Vt) (M2 : Vt), f_X8_settled N S V 0  = some (r, V2) ∧ f_X9_settled N Vm  = some (r, M2) ∧ Rel S V2 M2
def Op_forget (N b0 : Nat) (Rel : St → Vt → Vt → Prop) : Prop := ∀ (S : St) (V Vm : Vt), Rel S V Vm → ∀ (_ : Unit), ∃ (r : Int32) (V2 : Vt) (M2 : Vt), f_X8_forget N S V 0  = some (r, V2) ∧ f_X9_forget N Vm  = some (r, M2) ∧ Rel S V2 M2
def Op_few (N b0 : Nat) (Rel : St → Vt → Vt → Prop) : Prop := ∀ (S : St) (V Vm : Vt), Rel S V Vm → ∀ (a1 a2 : Int32), ∃ (r : Int64) (V2 : Vt) (M2 : Vt), f_X8_few N S V 0 a1 a2 = some (r, V2) ∧ f_X9_few N Vm a1 a2 = some (r, M2) ∧ Rel S V2 M2
def Op_weeks (N b0 : Nat) (Rel : St → Vt → Vt → Prop) : Prop := ∀ (S : St) (V Vm : Vt), Rel S V Vm → ∀ (a1 a2 : Int32), ∃ (r : Int32) (V2 : Vt) (M2 : Vt), f_X8_weeks N S V 0 a1 a2 = some (r, V2) ∧ f_X9_weeks N Vm a1 a2 = some (r, M2) ∧ Rel S V2 M2
def Op_drawn (N b0 : Nat) (Rel : St → Vt → Vt → Prop) : Prop := ∀ (S : St) (V Vm : Vt), Rel S V Vm → ∀ (a1 a2 : Int32), ∃ (r : Int32), f_X8_drawn N S V 0 a1 a2 = some r ∧ f_X9_drawn N Vm a1 a2 = some r ∧ Rel S V Vm
def Op_image (N b0 : Nat) (Rel : St → Vt → Vt → Prop) : Prop := ∀ (S : St) (V Vm : Vt), Rel S V Vm → ∀ (a1 : Int32), ∃ (r : Int32) (S2 : St) (V2 : Vt) (M2 : Vt), f_X8_image N (adX b0) S V 0 a1 = some (r, S2, V2) ∧ f_X9_image N Vm a1 = some (r, M2) ∧ Rel S2 V2 M2 ∧ S2.1 ≤ S.1 + 10
def Op_back (N b0 : Nat) (Rel : St → Vt → Vt → Prop) : Prop := ∀ (S : St) (V Vm : Vt), Rel S V Vm → ∀ (a1 : Int32), ∃ (r : Int32) (V2 : Vt) (M2 : Vt), f_X8_back N S V 0 a1 = some (r, V2) ∧ f_X9_back N Vm a1 = some (r, M2) ∧ Rel S V2 M2
def Op_count (N b0 : Nat) (Rel : St → Vt → Vt → Prop) : Prop := ∀ (S : St) (V Vm : Vt), Rel S V Vm → ∀ (a1 : Int32), ∃ (r : Int32), f_X8_count N S V 0 a1 = some r ∧ f_X9_count N Vm a1 = some r ∧ Rel S V Vm
def Op_status (N b0 : Nat) (Rel : St → Vt → Vt → Prop) : Prop := ∀ (S : St) (V Vm : Vt), Rel S V Vm → ∀ (_ : Unit), ∃ (r : Int32), f_X8_status N S V 0  = some r ∧ f_X9_status N Vm  = some r ∧ Rel S V Vm
def Ops (N b0 : Nat) (Rel : St → Vt → Vt → Prop) : Prop := (∀ S V Vm, Rel S V Vm → shp S 0 t8) ∧ Op_enter N b0 Rel ∧ Op_at N b0 Rel ∧ Op_told N b0 Rel ∧ Op_off N b0 Rel ∧ Op_clerk N b0 Rel ∧ Op_of N b0 Rel ∧ Op_asks N b0 Rel ∧ Op_terms N b0 Rel ∧ Op_feed N b0 Rel ∧ Op_end N b0 Rel ∧ Op_row N b0 Rel ∧ Op_smudges N b0 Rel ∧ Op_law N b0 Rel ∧ Op_orders N b0 Rel ∧ Op_fault N b0 Rel ∧ Op_stopped N b0 Rel ∧ Op_force N b0 Rel ∧ Op_take N b0 Rel ∧ Op_shift N b0 Rel ∧ Op_fence N b0 Rel ∧ Op_pass N b0 Rel ∧ Op_undo N b0 Rel ∧ Op_fewest N b0 Rel ∧ Op_turned N b0 Rel ∧ Op_hound N b0 Rel ∧ Op_ring N b0 Rel ∧ Op_sources N b0 Rel ∧ Op_casts N b0 Rel ∧ Op_seen N b0 Rel ∧ Op_fits N b0 Rel ∧ Op_next N b0 Rel ∧ Op_booked N b0 Rel ∧ Op_through N b0 Rel ∧ Op_settled N b0 Rel ∧ Op_forget N b0 Rel ∧ Op_few N b0 Rel ∧ Op_weeks N b0 Rel ∧ Op_drawn N b0 Rel ∧ Op_image N b0 Rel ∧ Op_back N b0 Rel ∧ Op_count N b0 Rel ∧ Op_status N b0 Rel
theorem lw_cmp {L k : Nat} (hL : L ≤ 3072) (hk : k ≤ 513) (h : ¬ (Int32.ofNat L - 6 < nI (6 * k))) : 6 * k + 6 ≤ L := by
  have h1 : (nI L - nI 6).toInt = (L : Int) - (6 : Nat) := pk_sub_toInt (by omega) (by omega)
  have h2 : (nI (6 * k)).toInt = ((6 * k : Nat) : Int) := nI_toInt (by omega)
  have h3 : ¬ (nI L - nI 6 < nI (6 * k)) := h
  rw [Int32.lt_iff_toInt_lt, h1, h2] at h3
  omega
set_option maxHeartbeats 8000000 in
set_option maxRecDepth 100000 in
theorem law_loop {p : Program} {e : Env} {s : State} {m : MethodId} {below : List Frame} {meth : Method} {c : Code} (l : Launch) {b L : Nat} {xs : Nat → Int32} (hL : L ≤ 3072) (C0 : lw_At p s m meth c b L xs) {D : va_G} {cy : Nat → ClassId} {aK aV aKm aVm : Nat → Nat} (hK : KK D cy s) (hKX : KX (AX s.heap.size) aK aV s) (hKM : KX (AM s.heap.size) aKm aVm s) (N : Nat) (Rel : St → Vt → Vt → Prop) (ops : Ops N s.heap.size Rel) : ∀ (n k : Nat), k + n = 513 → 6 * k ≤ L → ∀ (x3 : Int32), x3 = nI (6 * k) → ∀ (S : St) (V Vm : Vt) (H : Heap), LW D cy s S V Vm H → Rel S V Vm → S.1 ≤ 64 + 10 * k → ∀ ls : Array Slot, lv_has ls 4 [(0, .ref b), (1, .ref (adX s.heap.size 0)), (2, .ref (adM s.heap.size 0)), (3, .int x3)] → W p l e room_1 s m #[Value.ref b] below meth c H [] (100 + 12 * k) (30000 + 600 * k) (lw_Z below #[Value.ref b] s) (F0 m 18 ls []) := by
  obtain ⟨hx, hb, hr, hml, hown, hts, hX, hbl, hlocks, hgv⟩ := id C0
  have htg : ∀ w ∈ gw, w.before #[Value.ref b] s = true := fun w hw => hts w (gw_tbl hw)
  have CX : Cx (adX s.heap.size) (AX s.heap.size) (KX (AX s.heap.size) aK aV) := cxX (adX_inj _) (adX_A _)
  have CM : Cx (adM s.heap.size) (AM s.heap.size) (KX (AM s.heap.size) aKm aVm) := cxX (adM_inj _) (adM_A _)
  have XX : Fx p s m #[Value.ref b] c code RL 4 D cy (adX s.heap.size) (AX s.heap.size) (KX (AX s.heap.size) aK aV) := ⟨⟨hx, hb, hml⟩, hown, htg, hK, CX.1, CX.2.1, CX.2.2.1 s hKX, CX.2.2.2⟩
  have XM : Fx p s m #[Value.ref b] c code RL 4 D cy (adM s.heap.size) (AM s.heap.size) (KX (AM s.heap.size) aKm aVm) := ⟨⟨hx, hb, hml⟩, hown, htg, hK, CM.1, CM.2.1, CM.2.2.1 s hKM, CM.2.2.2⟩
  have hbX : ¬ AX s.heap.size b := fun h => absurd (AX_ge h) (Nat.not_le.mpr hbl)
  intro n
  induction n with
  | zero => intro k hk1 hk2; omega
  | succ n ih =>
    intro k hk1 hk2 x3 ex3 S V Vm H w hR hS ls hl
    have hsh := ops.1 S V Vm hR
    have K : ∀ (S2 : St) (V2 M2 : Vt) (H2 : Heap), LW D cy s S2 V2 M2 H2 → Rel S2 V2 M2 → S2.1 ≤ 64 + 10 * (k + 1) → 6 * k + 6 ≤ L → ∀ ls : Array Slot, lv_has ls 4 [(0, .ref b), (1, .ref (adX s.heap.size 0)), (2, .ref (adM s.heap.size 0)), (3, .int x3)] → W p l e room_1 s m #[Value.ref b] below meth c H2 [] (100 + 12 * (k + 1)) (30000 + 600 * (k + 1)) (lw_Z below #[Value.ref b] s) (F0 m 1333 ls []) := by
      intro S2 V2 M2 H2 w2 hR2 hS2 hk3 ls hl
      obtain ⟨x4, ex4⟩ : ∃ y : Int32, y = x3 + 6 := ⟨_, rfl⟩
      refine lv_iinc (v := x4) (lv' := [(3, .int x4), (0, .ref b), (1, .ref (adX s.heap.size 0)), (2, .ref (adM s.heap.size 0))]) hx hb dL_law_1333 hl (k := 3) rfl (by rw [ex4]; rfl) (by decide) rfl (fun ls hl => ?_)
      refine lv_goto (tgt := 18) hx hb dL_law_1336 (by decide) ?_
      refine ih (k + 1) (by omega) (by omega) x4 ?_ S2 V2 M2 H2 w2 hR2 hS2 ls (lv_sub hl [1, 2, 3, 0] rfl)
      rw [ex4, ex3]
      show nI (6 * k) + nI 6 = _
      rw [nI_add]
      exact congrArg nI (by omega)
    refine lv_iload_n hx hb dL_law_18 rfl (lv_at hl 3 rfl) ?_
    refine lv_aload_n hx hb dL_law_19 rfl (lv_at hl 0 rfl) ?_
    refine va_slen hx hb hX hbl hbX w.wx.2 dL_law_20 ?_
    refine lv_bipush (v := 6) hx hb dL_law_21 (by decide) ?_
    refine lv_isub hx hb dL_law_23 ?_
    refine lv_icmp_gt (tgt := 1339) hx hb dL_law_24 (by decide) (fun c0 => ?_) (fun c0 => ?_)
    · refine lv_iconst (v := 1) hx hb dL_law_1339 (by decide) ?_
      refine W.widen (k := 600000) (n := 7302250) (by omega) (by omega) ?_
      exact lw_ret hx hb hr hlocks dL_law_1340
    have hk3 : 6 * k + 6 ≤ L := lw_cmp hL (by omega) (by rw [← ex3]; exact c0)
    have hv : ∀ j : Nat, j < 6 → vp_in (x3 + nI j) L := by
      intro j hj
      rw [ex3, nI_add]
      exact vp_in_nI (by omega) (by omega)
    have hv0 : vp_in x3 L := by rw [ex3]; exact vp_in_nI (by omega) (by omega)
    refine lv_aload_n hx hb dL_law_27 rfl (lv_at hl 0 rfl) ?_
    refine lv_iload_n hx hb dL_law_28 rfl (lv_at hl 3 rfl) ?_
    refine va_sld hx hb hX hbl hbX w.wx.2 hv0 dL_law_29 ?_
    refine lv_bipush (v := 63) hx hb dL_law_30 (by decide) ?_
    refine lv_iand hx hb dL_law_32 ?_
    refine lv_topi (fun w0 ew0 => ?_)
    rcases Decidable.em (w0 = (0 : Int32)) with c1 | c1
    · refine lv_tableIn (tgt := 216) hx hb dL_law_33 (by rw [c1]; decide) (by rw [c1]; decide) (by rw [c1]; rfl) (by decide) ?_
      obtain ⟨r, V2, M2, hfx, hfm, hR2⟩ := ops.2.1 S V Vm hR (xs (x3 + 1).toNatClampNeg) (xs (x3 + 2).toNatClampNeg)
      refine lv_aload_n hx hb dL_law_216 rfl (lv_at hl 1 rfl) ?_
      refine lv_aload_n hx hb dL_law_217 rfl (lv_at hl 0 rfl) ?_
      refine lv_iload_n hx hb dL_law_218 rfl (lv_at hl 3 rfl) ?_
      refine lv_iconst (v := 1) hx hb dL_law_219 (by decide) ?_
      refine lv_iadd hx hb dL_law_220 ?_
      refine va_sld hx hb hX hbl hbX w.wx.2 (hv 1 (by decide)) dL_law_221 ?_
      refine lv_aload_n hx hb dL_law_222 rfl (lv_at hl 0 rfl) ?_
      refine lv_iload_n hx hb dL_law_223 rfl (lv_at hl 3 rfl) ?_
      refine lv_iconst (v := 2) hx hb dL_law_224 (by decide) ?_
      refine lv_iadd hx hb dL_law_225 ?_
      refine va_sld hx hb hX hbl hbX w.wx.2 (hv 2 (by decide)) dL_law_226 ?_
      refine lx_i (m_rV (As := [.int (xs (x3 + 1).toNatClampNeg), .int (xs (x3 + 2).toNatClampNeg)]) (rest := []) XX w.wx hl mi_X8_enter ml_L_13 0 (shn hsh 0 rfl) (shk hsh 0 rfl : S.2.1 0 = 8) rfl (c_X8_enter l D cy (adX s.heap.size) (AX s.heap.size) (KX (AX s.heap.size) aK aV) CX N S V 0 hsh (xs (x3 + 1).toNatClampNeg) (xs (x3 + 2).toNatClampNeg) r V2 hfx) ⟨⟨rfl, rfl, Nat.le_of_ble_eq_true rfl, Nat.le_of_ble_eq_true rfl⟩, (by show _ ≤ 600000; omega), (by show _ ≤ 7302250; omega)⟩ rfl rfl (Nat.le_of_ble_eq_true rfl) dL_law_227) w (by omega) (fun H w => ?_)
      refine lv_aload_n hx hb dL_law_230 rfl (lv_at hl 2 rfl) ?_
      refine lv_aload_n hx hb dL_law_231 rfl (lv_at hl 0 rfl) ?_
      refine lv_iload_n hx hb dL_law_232 rfl (lv_at hl 3 rfl) ?_
      refine lv_iconst (v := 1) hx hb dL_law_233 (by decide) ?_
      refine lv_iadd hx hb dL_law_234 ?_
      refine va_sld hx hb hX hbl hbX w.wx.2 (hv 1 (by decide)) dL_law_235 ?_
      refine lv_aload_n hx hb dL_law_236 rfl (lv_at hl 0 rfl) ?_
      refine lv_iload_n hx hb dL_law_237 rfl (lv_at hl 3 rfl) ?_
      refine lv_iconst (v := 2) hx hb dL_law_238 (by decide) ?_
      refine lv_iadd hx hb dL_law_239 ?_
      refine va_sld hx hb hX hbl hbX w.wx.2 (hv 2 (by decide)) dL_law_240 ?_
      refine lm_i (m_rV (As := [.int (xs (x3 + 1).toNatClampNeg), .int (xs (x3 + 2).toNatClampNeg)]) (rest := [.int r]) XM w.wm hl mi_X9_enter ml_L_17 0 sm_n0 sm_k0 rfl (c_X9_enter l D cy (adM s.heap.size) (AM s.heap.size) (KX (AM s.heap.size) aKm aVm) CM N H.size Vm (xs (x3 + 1).toNatClampNeg) (xs (x3 + 2).toNatClampNeg) r M2 hfm) ⟨⟨rfl, rfl, Nat.le_of_ble_eq_true rfl, Nat.le_of_ble_eq_true rfl⟩, (by show _ ≤ 600000; omega), (by show _ ≤ 7302250; omega)⟩ rfl rfl (Nat.le_of_ble_eq_true rfl) dL_law_241) w (fun H w => ?_)
      refine lv_icmp_eq (tgt := 1333) hx hb dL_law_244 (by decide) (fun _ => ?_) (fun q => absurd rfl q)
      refine W.widen (k := 100 + 12 * (k + 1)) (n := 30000 + 600 * (k + 1)) (by omega) (by omega) ?_
      exact K S V2 M2 H w hR2 (by omega) hk3 ls hl
    rcases Decidable.em (w0 = (1 : Int32)) with c2 | c2
    · refine lv_tableIn (tgt := 249) hx hb dL_law_33 (by rw [c2]; decide) (by rw [c2]; decide) (by rw [c2]; rfl) (by decide) ?_
      obtain ⟨r, V2, M2, hfx, hfm, hR2⟩ := ops.2.2.1 S V Vm hR (xs (x3 + 1).toNatClampNeg) (xs (x3 + 2).toNatClampNeg)
      refine lv_aload_n hx hb dL_law_249 rfl (lv_at hl 1 rfl) ?_
      refine lv_aload_n hx hb dL_law_250 rfl (lv_at hl 0 rfl) ?_
      refine lv_iload_n hx hb dL_law_251 rfl (lv_at hl 3 rfl) ?_
      refine lv_iconst (v := 1) hx hb dL_law_252 (by decide) ?_
      refine lv_iadd hx hb dL_law_253 ?_
      refine va_sld hx hb hX hbl hbX w.wx.2 (hv 1 (by decide)) dL_law_254 ?_
      refine lv_aload_n hx hb dL_law_255 rfl (lv_at hl 0 rfl) ?_
      refine lv_iload_n hx hb dL_law_256 rfl (lv_at hl 3 rfl) ?_
      refine lv_iconst (v := 2) hx hb dL_law_257 (by decide) ?_
      refine lv_iadd hx hb dL_law_258 ?_
      refine va_sld hx hb hX hbl hbX w.wx.2 (hv 2 (by decide)) dL_law_259 ?_
      refine lx_i (m_rV (As := [.int (xs (x3 + 1).toNatClampNeg), .int (xs (x3 + 2).toNatClampNeg)]) (rest := []) XX w.wx hl mi_X8_at ml_L_18 0 (shn hsh 0 rfl) (shk hsh 0 rfl : S.2.1 0 = 8) rfl (c_X8_at l D cy (adX s.heap.size) (AX s.heap.size) (KX (AX s.heap.size) aK aV) CX N S V 0 hsh (xs (x3 + 1).toNatClampNeg) (xs (x3 + 2).toNatClampNeg) r V2 hfx) ⟨⟨rfl, rfl, Nat.le_of_ble_eq_true rfl, Nat.le_of_ble_eq_true rfl⟩, (by show _ ≤ 600000; omega), (by show _ ≤ 7302250; omega)⟩ rfl rfl (Nat.le_of_ble_eq_true rfl) dL_law_260) w (by omega) (fun H w => ?_)
      refine lv_aload_n hx hb dL_law_263 rfl (lv_at hl 2 rfl) ?_
      refine lv_aload_n hx hb dL_law_264 rfl (lv_at hl 0 rfl) ?_
      refine lv_iload_n hx hb dL_law_265 rfl (lv_at hl 3 rfl) ?_
      refine lv_iconst (v := 1) hx hb dL_law_266 (by decide) ?_
      refine lv_iadd hx hb dL_law_267 ?_
      refine va_sld hx hb hX hbl hbX w.wx.2 (hv 1 (by decide)) dL_law_268 ?_
      refine lv_aload_n hx hb dL_law_269 rfl (lv_at hl 0 rfl) ?_
      refine lv_iload_n hx hb dL_law_270 rfl (lv_at hl 3 rfl) ?_
      refine lv_iconst (v := 2) hx hb dL_law_271 (by decide) ?_
      refine lv_iadd hx hb dL_law_272 ?_
      refine va_sld hx hb hX hbl hbX w.wx.2 (hv 2 (by decide)) dL_law_273 ?_
      refine lm_i (m_rV (As := [.int (xs (x3 + 1).toNatClampNeg), .int (xs (x3 + 2).toNatClampNeg)]) (rest := [.int r]) XM w.wm hl mi_X9_at ml_L_21 0 sm_n0 sm_k0 rfl (c_X9_at l D cy (adM s.heap.size) (AM s.heap.size) (KX (AM s.heap.size) aKm aVm) CM N H.size Vm (xs (x3 + 1).toNatClampNeg) (xs (x3 + 2).toNatClampNeg) r M2 hfm) ⟨⟨rfl, rfl, Nat.le_of_ble_eq_true rfl, Nat.le_of_ble_eq_true rfl⟩, (by show _ ≤ 600000; omega), (by show _ ≤ 7302250; omega)⟩ rfl rfl (Nat.le_of_ble_eq_true rfl) dL_law_274) w (fun H w => ?_)
      refine lv_icmp_eq (tgt := 1333) hx hb dL_law_277 (by decide) (fun _ => ?_) (fun q => absurd rfl q)
      refine W.widen (k := 100 + 12 * (k + 1)) (n := 30000 + 600 * (k + 1)) (by omega) (by omega) ?_
      exact K S V2 M2 H w hR2 (by omega) hk3 ls hl
    rcases Decidable.em (w0 = (2 : Int32)) with c3 | c3
    · refine lv_tableIn (tgt := 282) hx hb dL_law_33 (by rw [c3]; decide) (by rw [c3]; decide) (by rw [c3]; rfl) (by decide) ?_
      obtain ⟨r, V2, M2, hfx, hfm, hR2⟩ := ops.2.2.2.1 S V Vm hR (xs (x3 + 1).toNatClampNeg) (xs (x3 + 2).toNatClampNeg) (xs (x3 + 3).toNatClampNeg)
      refine lv_aload_n hx hb dL_law_282 rfl (lv_at hl 1 rfl) ?_
      refine lv_aload_n hx hb dL_law_283 rfl (lv_at hl 0 rfl) ?_
      refine lv_iload_n hx hb dL_law_284 rfl (lv_at hl 3 rfl) ?_
      refine lv_iconst (v := 1) hx hb dL_law_285 (by decide) ?_
      refine lv_iadd hx hb dL_law_286 ?_
      refine va_sld hx hb hX hbl hbX w.wx.2 (hv 1 (by decide)) dL_law_287 ?_
      refine lv_aload_n hx hb dL_law_288 rfl (lv_at hl 0 rfl) ?_
      refine lv_iload_n hx hb dL_law_289 rfl (lv_at hl 3 rfl) ?_
      refine lv_iconst (v := 2) hx hb dL_law_290 (by decide) ?_
      refine lv_iadd hx hb dL_law_291 ?_
      refine va_sld hx hb hX hbl hbX w.wx.2 (hv 2 (by decide)) dL_law_292 ?_
      refine lv_aload_n hx hb dL_law_293 rfl (lv_at hl 0 rfl) ?_
      refine lv_iload_n hx hb dL_law_294 rfl (lv_at hl 3 rfl) ?_
      refine lv_iconst (v := 3) hx hb dL_law_295 (by decide) ?_
      refine lv_iadd hx hb dL_law_296 ?_
      refine va_sld hx hb hX hbl hbX w.wx.2 (hv 3 (by decide)) dL_law_297 ?_
      refine lx_i (m_rV (As := [.int (xs (x3 + 1).toNatClampNeg), .int (xs (x3 + 2).toNatClampNeg), .int (xs (x3 + 3).toNatClampNeg)]) (rest := []) XX w.wx hl mi_X8_told ml_L_22 0 (shn hsh 0 rfl) (shk hsh 0 rfl : S.2.1 0 = 8) rfl (c_X8_told l D cy (adX s.heap.size) (AX s.heap.size) (KX (AX s.heap.size) aK aV) CX N S V 0 hsh (xs (x3 + 1).toNatClampNeg) (xs (x3 + 2).toNatClampNeg) (xs (x3 + 3).toNatClampNeg) r V2 hfx) ⟨⟨rfl, rfl, Nat.le_of_ble_eq_true rfl, Nat.le_of_ble_eq_true rfl⟩, (by show _ ≤ 600000; omega), (by show _ ≤ 7302250; omega)⟩ rfl rfl (Nat.le_of_ble_eq_true rfl) dL_law_298) w (by omega) (fun H w => ?_)
      refine lv_aload_n hx hb dL_law_301 rfl (lv_at hl 2 rfl) ?_
      refine lv_aload_n hx hb dL_law_302 rfl (lv_at hl 0 rfl) ?_
      refine lv_iload_n hx hb dL_law_303 rfl (lv_at hl 3 rfl) ?_
      refine lv_iconst (v := 1) hx hb dL_law_304 (by decide) ?_
      refine lv_iadd hx hb dL_law_305 ?_
      refine va_sld hx hb hX hbl hbX w.wx.2 (hv 1 (by decide)) dL_law_306 ?_
      refine lv_aload_n hx hb dL_law_307 rfl (lv_at hl 0 rfl) ?_
      refine lv_iload_n hx hb dL_law_308 rfl (lv_at hl 3 rfl) ?_
      refine lv_iconst (v := 2) hx hb dL_law_309 (by decide) ?_
      refine lv_iadd hx hb dL_law_310 ?_
      refine va_sld hx hb hX hbl hbX w.wx.2 (hv 2 (by decide)) dL_law_311 ?_
      refine lv_aload_n hx hb dL_law_312 rfl (lv_at hl 0 rfl) ?_
      refine lv_iload_n hx hb dL_law_313 rfl (lv_at hl 3 rfl) ?_
      refine lv_iconst (v := 3) hx hb dL_law_314 (by decide) ?_
      refine lv_iadd hx hb dL_law_315 ?_
      refine va_sld hx hb hX hbl hbX w.wx.2 (hv 3 (by decide)) dL_law_316 ?_
      refine lm_i (m_rV (As := [.int (xs (x3 + 1).toNatClampNeg), .int (xs (x3 + 2).toNatClampNeg), .int (xs (x3 + 3).toNatClampNeg)]) (rest := [.int r]) XM w.wm hl mi_X9_told ml_L_26 0 sm_n0 sm_k0 rfl (c_X9_told l D cy (adM s.heap.size) (AM s.heap.size) (KX (AM s.heap.size) aKm aVm) CM N H.size Vm (xs (x3 + 1).toNatClampNeg) (xs (x3 + 2).toNatClampNeg) (xs (x3 + 3).toNatClampNeg) r M2 hfm) ⟨⟨rfl, rfl, Nat.le_of_ble_eq_true rfl, Nat.le_of_ble_eq_true rfl⟩, (by show _ ≤ 600000; omega), (by show _ ≤ 7302250; omega)⟩ rfl rfl (Nat.le_of_ble_eq_true rfl) dL_law_317) w (fun H w => ?_)
      refine lv_icmp_eq (tgt := 1333) hx hb dL_law_320 (by decide) (fun _ => ?_) (fun q => absurd rfl q)
      refine W.widen (k := 100 + 12 * (k + 1)) (n := 30000 + 600 * (k + 1)) (by omega) (by omega) ?_
      exact K S V2 M2 H w hR2 (by omega) hk3 ls hl
    rcases Decidable.em (w0 = (3 : Int32)) with c4 | c4
    · refine lv_tableIn (tgt := 325) hx hb dL_law_33 (by rw [c4]; decide) (by rw [c4]; decide) (by rw [c4]; rfl) (by decide) ?_
      obtain ⟨r, hfx, hfm, hR2⟩ := ops.2.2.2.2.1 S V Vm hR (xs (x3 + 1).toNatClampNeg) (xs (x3 + 2).toNatClampNeg)
      refine lv_aload_n hx hb dL_law_325 rfl (lv_at hl 1 rfl) ?_
      refine lv_aload_n hx hb dL_law_326 rfl (lv_at hl 0 rfl) ?_
      refine lv_iload_n hx hb dL_law_327 rfl (lv_at hl 3 rfl) ?_
      refine lv_iconst (v := 1) hx hb dL_law_328 (by decide) ?_
      refine lv_iadd hx hb dL_law_329 ?_
      refine va_sld hx hb hX hbl hbX w.wx.2 (hv 1 (by decide)) dL_law_330 ?_
      refine lv_aload_n hx hb dL_law_331 rfl (lv_at hl 0 rfl) ?_
      refine lv_iload_n hx hb dL_law_332 rfl (lv_at hl 3 rfl) ?_
      refine lv_iconst (v := 2) hx hb dL_law_333 (by decide) ?_
      refine lv_iadd hx hb dL_law_334 ?_
      refine va_sld hx hb hX hbl hbX w.wx.2 (hv 2 (by decide)) dL_law_335 ?_
      refine lx_i (m_rV (As := [.int (xs (x3 + 1).toNatClampNeg), .int (xs (x3 + 2).toNatClampNeg)]) (rest := []) XX w.wx hl mi_X8_off ml_L_27 0 (shn hsh 0 rfl) (shk hsh 0 rfl : S.2.1 0 = 8) rfl (c_X8_off l D cy (adX s.heap.size) (AX s.heap.size) (KX (AX s.heap.size) aK aV) CX N S V 0 hsh (xs (x3 + 1).toNatClampNeg) (xs (x3 + 2).toNatClampNeg) r hfx) ⟨⟨rfl, rfl, Nat.le_of_ble_eq_true rfl, Nat.le_of_ble_eq_true rfl⟩, (by show _ ≤ 600000; omega), (by show _ ≤ 7302250; omega)⟩ rfl rfl (Nat.le_of_ble_eq_true rfl) dL_law_336) w (by omega) (fun H w => ?_)
      refine lv_aload_n hx hb dL_law_339 rfl (lv_at hl 2 rfl) ?_
      refine lv_aload_n hx hb dL_law_340 rfl (lv_at hl 0 rfl) ?_
      refine lv_iload_n hx hb dL_law_341 rfl (lv_at hl 3 rfl) ?_
      refine lv_iconst (v := 1) hx hb dL_law_342 (by decide) ?_
      refine lv_iadd hx hb dL_law_343 ?_
      refine va_sld hx hb hX hbl hbX w.wx.2 (hv 1 (by decide)) dL_law_344 ?_
      refine lv_aload_n hx hb dL_law_345 rfl (lv_at hl 0 rfl) ?_
      refine lv_iload_n hx hb dL_law_346 rfl (lv_at hl 3 rfl) ?_
      refine lv_iconst (v := 2) hx hb dL_law_347 (by decide) ?_
      refine lv_iadd hx hb dL_law_348 ?_
      refine va_sld hx hb hX hbl hbX w.wx.2 (hv 2 (by decide)) dL_law_349 ?_
      refine lm_i (m_rV (As := [.int (xs (x3 + 1).toNatClampNeg), .int (xs (x3 + 2).toNatClampNeg)]) (rest := [.int r]) XM w.wm hl mi_X9_off ml_L_30 0 sm_n0 sm_k0 rfl (c_X9_off l D cy (adM s.heap.size) (AM s.heap.size) (KX (AM s.heap.size) aKm aVm) CM N H.size Vm (xs (x3 + 1).toNatClampNeg) (xs (x3 + 2).toNatClampNeg) r hfm) ⟨⟨rfl, rfl, Nat.le_of_ble_eq_true rfl, Nat.le_of_ble_eq_true rfl⟩, (by show _ ≤ 600000; omega), (by show _ ≤ 7302250; omega)⟩ rfl rfl (Nat.le_of_ble_eq_true rfl) dL_law_350) w (fun H w => ?_)
      refine lv_icmp_eq (tgt := 1333) hx hb dL_law_353 (by decide) (fun _ => ?_) (fun q => absurd rfl q)
      refine W.widen (k := 100 + 12 * (k + 1)) (n := 30000 + 600 * (k + 1)) (by omega) (by omega) ?_
      exact K S V Vm H w hR2 (by omega) hk3 ls hl
    rcases Decidable.em (w0 = (4 : Int32)) with c5 | c5
    · refine lv_tableIn (tgt := 358) hx hb dL_law_33 (by rw [c5]; decide) (by rw [c5]; decide) (by rw [c5]; rfl) (by decide) ?_
      obtain ⟨r, V2, M2, hfx, hfm, hR2⟩ := ops.2.2.2.2.2.1 S V Vm hR (xs (x3 + 1).toNatClampNeg)
      refine lv_aload_n hx hb dL_law_358 rfl (lv_at hl 1 rfl) ?_
      refine lv_aload_n hx hb dL_law_359 rfl (lv_at hl 0 rfl) ?_
      refine lv_iload_n hx hb dL_law_360 rfl (lv_at hl 3 rfl) ?_
      refine lv_iconst (v := 1) hx hb dL_law_361 (by decide) ?_
      refine lv_iadd hx hb dL_law_362 ?_
      refine va_sld hx hb hX hbl hbX w.wx.2 (hv 1 (by decide)) dL_law_363 ?_
      refine lx_i (m_rV (As := [.int (xs (x3 + 1).toNatClampNeg)]) (rest := []) XX w.wx hl mi_X8_clerk ml_L_31 0 (shn hsh 0 rfl) (shk hsh 0 rfl : S.2.1 0 = 8) rfl (c_X8_clerk l D cy (adX s.heap.size) (AX s.heap.size) (KX (AX s.heap.size) aK aV) CX N S V 0 hsh (xs (x3 + 1).toNatClampNeg) r V2 hfx) ⟨⟨rfl, rfl, Nat.le_of_ble_eq_true rfl, Nat.le_of_ble_eq_true rfl⟩, (by show _ ≤ 600000; omega), (by show _ ≤ 7302250; omega)⟩ rfl rfl (Nat.le_of_ble_eq_true rfl) dL_law_364) w (by omega) (fun H w => ?_)
      refine lv_aload_n hx hb dL_law_367 rfl (lv_at hl 2 rfl) ?_
      refine lv_aload_n hx hb dL_law_368 rfl (lv_at hl 0 rfl) ?_
      refine lv_iload_n hx hb dL_law_369 rfl (lv_at hl 3 rfl) ?_
      refine lv_iconst (v := 1) hx hb dL_law_370 (by decide) ?_
      refine lv_iadd hx hb dL_law_371 ?_
      refine va_sld hx hb hX hbl hbX w.wx.2 (hv 1 (by decide)) dL_law_372 ?_
      refine lm_i (m_rV (As := [.int (xs (x3 + 1).toNatClampNeg)]) (rest := [.int r]) XM w.wm hl mi_X9_clerk ml_L_35 0 sm_n0 sm_k0 rfl (c_X9_clerk l D cy (adM s.heap.size) (AM s.heap.size) (KX (AM s.heap.size) aKm aVm) CM N H.size Vm (xs (x3 + 1).toNatClampNeg) r M2 hfm) ⟨⟨rfl, rfl, Nat.le_of_ble_eq_true rfl, Nat.le_of_ble_eq_true rfl⟩, (by show _ ≤ 600000; omega), (by show _ ≤ 7302250; omega)⟩ rfl rfl (Nat.le_of_ble_eq_true rfl) dL_law_373) w (fun H w => ?_)
      refine lv_icmp_eq (tgt := 1333) hx hb dL_law_376 (by decide) (fun _ => ?_) (fun q => absurd rfl q)
      refine W.widen (k := 100 + 12 * (k + 1)) (n := 30000 + 600 * (k + 1)) (by omega) (by omega) ?_
      exact K S V2 M2 H w hR2 (by omega) hk3 ls hl
    rcases Decidable.em (w0 = (5 : Int32)) with c6 | c6
    · refine lv_tableIn (tgt := 381) hx hb dL_law_33 (by rw [c6]; decide) (by rw [c6]; decide) (by rw [c6]; rfl) (by decide) ?_
      obtain ⟨r, hfx, hfm, hR2⟩ := ops.2.2.2.2.2.2.1 S V Vm hR (xs (x3 + 1).toNatClampNeg) (xs (x3 + 2).toNatClampNeg)
      refine lv_aload_n hx hb dL_law_381 rfl (lv_at hl 1 rfl) ?_
      refine lv_aload_n hx hb dL_law_382 rfl (lv_at hl 0 rfl) ?_
      refine lv_iload_n hx hb dL_law_383 rfl (lv_at hl 3 rfl) ?_
      refine lv_iconst (v := 1) hx hb dL_law_384 (by decide) ?_
      refine lv_iadd hx hb dL_law_385 ?_
      refine va_sld hx hb hX hbl hbX w.wx.2 (hv 1 (by decide)) dL_law_386 ?_
      refine lv_aload_n hx hb dL_law_387 rfl (lv_at hl 0 rfl) ?_
      refine lv_iload_n hx hb dL_law_388 rfl (lv_at hl 3 rfl) ?_
      refine lv_iconst (v := 2) hx hb dL_law_389 (by decide) ?_
      refine lv_iadd hx hb dL_law_390 ?_
      refine va_sld hx hb hX hbl hbX w.wx.2 (hv 2 (by decide)) dL_law_391 ?_
      refine lx_i (m_rV (As := [.int (xs (x3 + 1).toNatClampNeg), .int (xs (x3 + 2).toNatClampNeg)]) (rest := []) XX w.wx hl mi_X8_of ml_L_36 0 (shn hsh 0 rfl) (shk hsh 0 rfl : S.2.1 0 = 8) rfl (c_X8_of l D cy (adX s.heap.size) (AX s.heap.size) (KX (AX s.heap.size) aK aV) CX N S V 0 hsh (xs (x3 + 1).toNatClampNeg) (xs (x3 + 2).toNatClampNeg) r hfx) ⟨⟨rfl, rfl, Nat.le_of_ble_eq_true rfl, Nat.le_of_ble_eq_true rfl⟩, (by show _ ≤ 600000; omega), (by show _ ≤ 7302250; omega)⟩ rfl rfl (Nat.le_of_ble_eq_true rfl) dL_law_392) w (by omega) (fun H w => ?_)
      refine lv_aload_n hx hb dL_law_395 rfl (lv_at hl 2 rfl) ?_
      refine lv_aload_n hx hb dL_law_396 rfl (lv_at hl 0 rfl) ?_
      refine lv_iload_n hx hb dL_law_397 rfl (lv_at hl 3 rfl) ?_
      refine lv_iconst (v := 1) hx hb dL_law_398 (by decide) ?_
      refine lv_iadd hx hb dL_law_399 ?_
      refine va_sld hx hb hX hbl hbX w.wx.2 (hv 1 (by decide)) dL_law_400 ?_
      refine lv_aload_n hx hb dL_law_401 rfl (lv_at hl 0 rfl) ?_
      refine lv_iload_n hx hb dL_law_402 rfl (lv_at hl 3 rfl) ?_
      refine lv_iconst (v := 2) hx hb dL_law_403 (by decide) ?_
      refine lv_iadd hx hb dL_law_404 ?_
      refine va_sld hx hb hX hbl hbX w.wx.2 (hv 2 (by decide)) dL_law_405 ?_
      refine lm_i (m_rV (As := [.int (xs (x3 + 1).toNatClampNeg), .int (xs (x3 + 2).toNatClampNeg)]) (rest := [.int r]) XM w.wm hl mi_X9_of ml_L_39 0 sm_n0 sm_k0 rfl (c_X9_of l D cy (adM s.heap.size) (AM s.heap.size) (KX (AM s.heap.size) aKm aVm) CM N H.size Vm (xs (x3 + 1).toNatClampNeg) (xs (x3 + 2).toNatClampNeg) r hfm) ⟨⟨rfl, rfl, Nat.le_of_ble_eq_true rfl, Nat.le_of_ble_eq_true rfl⟩, (by show _ ≤ 600000; omega), (by show _ ≤ 7302250; omega)⟩ rfl rfl (Nat.le_of_ble_eq_true rfl) dL_law_406) w (fun H w => ?_)
      refine lv_icmp_eq (tgt := 1333) hx hb dL_law_409 (by decide) (fun _ => ?_) (fun q => absurd rfl q)
      refine W.widen (k := 100 + 12 * (k + 1)) (n := 30000 + 600 * (k + 1)) (by omega) (by omega) ?_
      exact K S V Vm H w hR2 (by omega) hk3 ls hl
    rcases Decidable.em (w0 = (6 : Int32)) with c7 | c7
    · refine lv_tableIn (tgt := 414) hx hb dL_law_33 (by rw [c7]; decide) (by rw [c7]; decide) (by rw [c7]; rfl) (by decide) ?_
      obtain ⟨r, V2, M2, hfx, hfm, hR2⟩ := ops.2.2.2.2.2.2.2.1 S V Vm hR (xs (x3 + 1).toNatClampNeg) (xs (x3 + 2).toNatClampNeg) (xs (x3 + 3).toNatClampNeg)
      refine lv_aload_n hx hb dL_law_414 rfl (lv_at hl 1 rfl) ?_
      refine lv_aload_n hx hb dL_law_415 rfl (lv_at hl 0 rfl) ?_
      refine lv_iload_n hx hb dL_law_416 rfl (lv_at hl 3 rfl) ?_
      refine lv_iconst (v := 1) hx hb dL_law_417 (by decide) ?_
      refine lv_iadd hx hb dL_law_418 ?_
      refine va_sld hx hb hX hbl hbX w.wx.2 (hv 1 (by decide)) dL_law_419 ?_
      refine lv_aload_n hx hb dL_law_420 rfl (lv_at hl 0 rfl) ?_
      refine lv_iload_n hx hb dL_law_421 rfl (lv_at hl 3 rfl) ?_
      refine lv_iconst (v := 2) hx hb dL_law_422 (by decide) ?_
      refine lv_iadd hx hb dL_law_423 ?_
      refine va_sld hx hb hX hbl hbX w.wx.2 (hv 2 (by decide)) dL_law_424 ?_
      refine lv_aload_n hx hb dL_law_425 rfl (lv_at hl 0 rfl) ?_
      refine lv_iload_n hx hb dL_law_426 rfl (lv_at hl 3 rfl) ?_
      refine lv_iconst (v := 3) hx hb dL_law_427 (by decide) ?_
      refine lv_iadd hx hb dL_law_428 ?_
      refine va_sld hx hb hX hbl hbX w.wx.2 (hv 3 (by decide)) dL_law_429 ?_
      refine lx_i (m_rV (As := [.int (xs (x3 + 1).toNatClampNeg), .int (xs (x3 + 2).toNatClampNeg), .int (xs (x3 + 3).toNatClampNeg)]) (rest := []) XX w.wx hl mi_X8_asks ml_L_40 0 (shn hsh 0 rfl) (shk hsh 0 rfl : S.2.1 0 = 8) rfl (c_X8_asks l D cy (adX s.heap.size) (AX s.heap.size) (KX (AX s.heap.size) aK aV) CX N S V 0 hsh (xs (x3 + 1).toNatClampNeg) (xs (x3 + 2).toNatClampNeg) (xs (x3 + 3).toNatClampNeg) r V2 hfx) ⟨⟨rfl, rfl, Nat.le_of_ble_eq_true rfl, Nat.le_of_ble_eq_true rfl⟩, (by show _ ≤ 600000; omega), (by show _ ≤ 7302250; omega)⟩ rfl rfl (Nat.le_of_ble_eq_true rfl) dL_law_430) w (by omega) (fun H w => ?_)
      refine lv_aload_n hx hb dL_law_433 rfl (lv_at hl 2 rfl) ?_
      refine lv_aload_n hx hb dL_law_434 rfl (lv_at hl 0 rfl) ?_
      refine lv_iload_n hx hb dL_law_435 rfl (lv_at hl 3 rfl) ?_
      refine lv_iconst (v := 1) hx hb dL_law_436 (by decide) ?_
      refine lv_iadd hx hb dL_law_437 ?_
      refine va_sld hx hb hX hbl hbX w.wx.2 (hv 1 (by decide)) dL_law_438 ?_
      refine lv_aload_n hx hb dL_law_439 rfl (lv_at hl 0 rfl) ?_
      refine lv_iload_n hx hb dL_law_440 rfl (lv_at hl 3 rfl) ?_
      refine lv_iconst (v := 2) hx hb dL_law_441 (by decide) ?_
      refine lv_iadd hx hb dL_law_442 ?_
      refine va_sld hx hb hX hbl hbX w.wx.2 (hv 2 (by decide)) dL_law_443 ?_
      refine lv_aload_n hx hb dL_law_444 rfl (lv_at hl 0 rfl) ?_
      refine lv_iload_n hx hb dL_law_445 rfl (lv_at hl 3 rfl) ?_
      refine lv_iconst (v := 3) hx hb dL_law_446 (by decide) ?_
      refine lv_iadd hx hb dL_law_447 ?_
      refine va_sld hx hb hX hbl hbX w.wx.2 (hv 3 (by decide)) dL_law_448 ?_
      refine lm_i (m_rV (As := [.int (xs (x3 + 1).toNatClampNeg), .int (xs (x3 + 2).toNatClampNeg), .int (xs (x3 + 3).toNatClampNeg)]) (rest := [.int r]) XM w.wm hl mi_X9_asks ml_L_43 0 sm_n0 sm_k0 rfl (c_X9_asks l D cy (adM s.heap.size) (AM s.heap.size) (KX (AM s.heap.size) aKm aVm) CM N H.size Vm (xs (x3 + 1).toNatClampNeg) (xs (x3 + 2).toNatClampNeg) (xs (x3 + 3).toNatClampNeg) r M2 hfm) ⟨⟨rfl, rfl, Nat.le_of_ble_eq_true rfl, Nat.le_of_ble_eq_true rfl⟩, (by show _ ≤ 600000; omega), (by show _ ≤ 7302250; omega)⟩ rfl rfl (Nat.le_of_ble_eq_true rfl) dL_law_449) w (fun H w => ?_)
      refine lv_icmp_eq (tgt := 1333) hx hb dL_law_452 (by decide) (fun _ => ?_) (fun q => absurd rfl q)
      refine W.widen (k := 100 + 12 * (k + 1)) (n := 30000 + 600 * (k + 1)) (by omega) (by omega) ?_
      exact K S V2 M2 H w hR2 (by omega) hk3 ls hl
    rcases Decidable.em (w0 = (7 : Int32)) with c8 | c8
    · refine lv_tableIn (tgt := 457) hx hb dL_law_33 (by rw [c8]; decide) (by rw [c8]; decide) (by rw [c8]; rfl) (by decide) ?_
      obtain ⟨r, V2, M2, hfx, hfm, hR2⟩ := ops.2.2.2.2.2.2.2.2.1 S V Vm hR (xs (x3 + 1).toNatClampNeg) (xs (x3 + 2).toNatClampNeg)
      refine lv_aload_n hx hb dL_law_457 rfl (lv_at hl 1 rfl) ?_
      refine lv_aload_n hx hb dL_law_458 rfl (lv_at hl 0 rfl) ?_
      refine lv_iload_n hx hb dL_law_459 rfl (lv_at hl 3 rfl) ?_
      refine lv_iconst (v := 1) hx hb dL_law_460 (by decide) ?_
      refine lv_iadd hx hb dL_law_461 ?_
      refine va_sld hx hb hX hbl hbX w.wx.2 (hv 1 (by decide)) dL_law_462 ?_
      refine lv_aload_n hx hb dL_law_463 rfl (lv_at hl 0 rfl) ?_
      refine lv_iload_n hx hb dL_law_464 rfl (lv_at hl 3 rfl) ?_
      refine lv_iconst (v := 2) hx hb dL_law_465 (by decide) ?_
      refine lv_iadd hx hb dL_law_466 ?_
      refine va_sld hx hb hX hbl hbX w.wx.2 (hv 2 (by decide)) dL_law_467 ?_
      refine lx_i (m_rV (As := [.int (xs (x3 + 1).toNatClampNeg), .int (xs (x3 + 2).toNatClampNeg)]) (rest := []) XX w.wx hl mi_X8_terms ml_L_44 0 (shn hsh 0 rfl) (shk hsh 0 rfl : S.2.1 0 = 8) rfl (c_X8_terms l D cy (adX s.heap.size) (AX s.heap.size) aK aV CX N S V 0 hsh (xs (x3 + 1).toNatClampNeg) (xs (x3 + 2).toNatClampNeg) r V2 hfx) ⟨⟨rfl, rfl, Nat.le_of_ble_eq_true rfl, Nat.le_of_ble_eq_true rfl⟩, (by show _ ≤ 600000; omega), (by show _ ≤ 7302250; omega)⟩ rfl rfl (Nat.le_of_ble_eq_true rfl) dL_law_468) w (by omega) (fun H w => ?_)
      refine lv_aload_n hx hb dL_law_471 rfl (lv_at hl 2 rfl) ?_
      refine lv_aload_n hx hb dL_law_472 rfl (lv_at hl 0 rfl) ?_
      refine lv_iload_n hx hb dL_law_473 rfl (lv_at hl 3 rfl) ?_
      refine lv_iconst (v := 1) hx hb dL_law_474 (by decide) ?_
      refine lv_iadd hx hb dL_law_475 ?_
      refine va_sld hx hb hX hbl hbX w.wx.2 (hv 1 (by decide)) dL_law_476 ?_
      refine lv_aload_n hx hb dL_law_477 rfl (lv_at hl 0 rfl) ?_
      refine lv_iload_n hx hb dL_law_478 rfl (lv_at hl 3 rfl) ?_
      refine lv_iconst (v := 2) hx hb dL_law_479 (by decide) ?_
      refine lv_iadd hx hb dL_law_480 ?_
      refine va_sld hx hb hX hbl hbX w.wx.2 (hv 2 (by decide)) dL_law_481 ?_
      refine lm_i (m_rV (As := [.int (xs (x3 + 1).toNatClampNeg), .int (xs (x3 + 2).toNatClampNeg)]) (rest := [.int r]) XM w.wm hl mi_X9_terms ml_L_47 0 sm_n0 sm_k0 rfl (c_X9_terms l D cy (adM s.heap.size) (AM s.heap.size) (KX (AM s.heap.size) aKm aVm) CM N H.size Vm (xs (x3 + 1).toNatClampNeg) (xs (x3 + 2).toNatClampNeg) r M2 hfm) ⟨⟨rfl, rfl, Nat.le_of_ble_eq_true rfl, Nat.le_of_ble_eq_true rfl⟩, (by show _ ≤ 600000; omega), (by show _ ≤ 7302250; omega)⟩ rfl rfl (Nat.le_of_ble_eq_true rfl) dL_law_482) w (fun H w => ?_)
      refine lv_icmp_eq (tgt := 1333) hx hb dL_law_485 (by decide) (fun _ => ?_) (fun q => absurd rfl q)
      refine W.widen (k := 100 + 12 * (k + 1)) (n := 30000 + 600 * (k + 1)) (by omega) (by omega) ?_
      exact K S V2 M2 H w hR2 (by omega) hk3 ls hl
    rcases Decidable.em (w0 = (8 : Int32)) with c9 | c9
    · refine lv_tableIn (tgt := 490) hx hb dL_law_33 (by rw [c9]; decide) (by rw [c9]; decide) (by rw [c9]; rfl) (by decide) ?_
      obtain ⟨r, V2, M2, hfx, hfm, hR2⟩ := ops.2.2.2.2.2.2.2.2.2.1 S V Vm hR (xs (x3 + 1).toNatClampNeg) (xs (x3 + 2).toNatClampNeg) (xs (x3 + 3).toNatClampNeg) (xs (x3 + 4).toNatClampNeg) (xs (x3 + 5).toNatClampNeg)
      refine lv_aload_n hx hb dL_law_490 rfl (lv_at hl 1 rfl) ?_
      refine lv_aload_n hx hb dL_law_491 rfl (lv_at hl 0 rfl) ?_
      refine lv_iload_n hx hb dL_law_492 rfl (lv_at hl 3 rfl) ?_
      refine lv_iconst (v := 1) hx hb dL_law_493 (by decide) ?_
      refine lv_iadd hx hb dL_law_494 ?_
      refine va_sld hx hb hX hbl hbX w.wx.2 (hv 1 (by decide)) dL_law_495 ?_
      refine lv_aload_n hx hb dL_law_496 rfl (lv_at hl 0 rfl) ?_
      refine lv_iload_n hx hb dL_law_497 rfl (lv_at hl 3 rfl) ?_
      refine lv_iconst (v := 2) hx hb dL_law_498 (by decide) ?_
      refine lv_iadd hx hb dL_law_499 ?_
      refine va_sld hx hb hX hbl hbX w.wx.2 (hv 2 (by decide)) dL_law_500 ?_
      refine lv_aload_n hx hb dL_law_501 rfl (lv_at hl 0 rfl) ?_
      refine lv_iload_n hx hb dL_law_502 rfl (lv_at hl 3 rfl) ?_
      refine lv_iconst (v := 3) hx hb dL_law_503 (by decide) ?_
      refine lv_iadd hx hb dL_law_504 ?_
      refine va_sld hx hb hX hbl hbX w.wx.2 (hv 3 (by decide)) dL_law_505 ?_
      refine lv_aload_n hx hb dL_law_506 rfl (lv_at hl 0 rfl) ?_
      refine lv_iload_n hx hb dL_law_507 rfl (lv_at hl 3 rfl) ?_
      refine lv_iconst (v := 4) hx hb dL_law_508 (by decide) ?_
      refine lv_iadd hx hb dL_law_509 ?_
      refine va_sld hx hb hX hbl hbX w.wx.2 (hv 4 (by decide)) dL_law_510 ?_
      refine lv_aload_n hx hb dL_law_511 rfl (lv_at hl 0 rfl) ?_
      refine lv_iload_n hx hb dL_law_512 rfl (lv_at hl 3 rfl) ?_
      refine lv_iconst (v := 5) hx hb dL_law_513 (by decide) ?_
      refine lv_iadd hx hb dL_law_514 ?_
      refine va_sld hx hb hX hbl hbX w.wx.2 (hv 5 (by decide)) dL_law_515 ?_
      refine lx_i (m_rV (As := [.int (xs (x3 + 1).toNatClampNeg), .int (xs (x3 + 2).toNatClampNeg), .int (xs (x3 + 3).toNatClampNeg), .int (xs (x3 + 4).toNatClampNeg), .int (xs (x3 + 5).toNatClampNeg)]) (rest := []) XX w.wx hl mi_X8_feed ml_L_48 0 (shn hsh 0 rfl) (shk hsh 0 rfl : S.2.1 0 = 8) rfl (c_X8_feed l D cy (adX s.heap.size) (AX s.heap.size) (KX (AX s.heap.size) aK aV) CX N S V 0 hsh (xs (x3 + 1).toNatClampNeg) (xs (x3 + 2).toNatClampNeg) (xs (x3 + 3).toNatClampNeg) (xs (x3 + 4).toNatClampNeg) (xs (x3 + 5).toNatClampNeg) r V2 hfx) ⟨⟨rfl, rfl, Nat.le_of_ble_eq_true rfl, Nat.le_of_ble_eq_true rfl⟩, (by show _ ≤ 600000; omega), (by show _ ≤ 7302250; omega)⟩ rfl rfl (Nat.le_of_ble_eq_true rfl) dL_law_516) w (by omega) (fun H w => ?_)
      refine lv_aload_n hx hb dL_law_519 rfl (lv_at hl 2 rfl) ?_
      refine lv_aload_n hx hb dL_law_520 rfl (lv_at hl 0 rfl) ?_
      refine lv_iload_n hx hb dL_law_521 rfl (lv_at hl 3 rfl) ?_
      refine lv_iconst (v := 1) hx hb dL_law_522 (by decide) ?_
      refine lv_iadd hx hb dL_law_523 ?_
      refine va_sld hx hb hX hbl hbX w.wx.2 (hv 1 (by decide)) dL_law_524 ?_
      refine lv_aload_n hx hb dL_law_525 rfl (lv_at hl 0 rfl) ?_
      refine lv_iload_n hx hb dL_law_526 rfl (lv_at hl 3 rfl) ?_
      refine lv_iconst (v := 2) hx hb dL_law_527 (by decide) ?_
      refine lv_iadd hx hb dL_law_528 ?_
      refine va_sld hx hb hX hbl hbX w.wx.2 (hv 2 (by decide)) dL_law_529 ?_
      refine lv_aload_n hx hb dL_law_530 rfl (lv_at hl 0 rfl) ?_
      refine lv_iload_n hx hb dL_law_531 rfl (lv_at hl 3 rfl) ?_
      refine lv_iconst (v := 3) hx hb dL_law_532 (by decide) ?_
      refine lv_iadd hx hb dL_law_533 ?_
      refine va_sld hx hb hX hbl hbX w.wx.2 (hv 3 (by decide)) dL_law_534 ?_
      refine lv_aload_n hx hb dL_law_535 rfl (lv_at hl 0 rfl) ?_
      refine lv_iload_n hx hb dL_law_536 rfl (lv_at hl 3 rfl) ?_
      refine lv_iconst (v := 4) hx hb dL_law_537 (by decide) ?_
      refine lv_iadd hx hb dL_law_538 ?_
      refine va_sld hx hb hX hbl hbX w.wx.2 (hv 4 (by decide)) dL_law_539 ?_
      refine lv_aload_n hx hb dL_law_540 rfl (lv_at hl 0 rfl) ?_
      refine lv_iload_n hx hb dL_law_541 rfl (lv_at hl 3 rfl) ?_
      refine lv_iconst (v := 5) hx hb dL_law_542 (by decide) ?_
      refine lv_iadd hx hb dL_law_543 ?_
      refine va_sld hx hb hX hbl hbX w.wx.2 (hv 5 (by decide)) dL_law_544 ?_
      refine lm_i (m_rV (As := [.int (xs (x3 + 1).toNatClampNeg), .int (xs (x3 + 2).toNatClampNeg), .int (xs (x3 + 3).toNatClampNeg), .int (xs (x3 + 4).toNatClampNeg), .int (xs (x3 + 5).toNatClampNeg)]) (rest := [.int r]) XM w.wm hl mi_X9_feed ml_L_52 0 sm_n0 sm_k0 rfl (c_X9_feed l D cy (adM s.heap.size) (AM s.heap.size) (KX (AM s.heap.size) aKm aVm) CM N H.size Vm (xs (x3 + 1).toNatClampNeg) (xs (x3 + 2).toNatClampNeg) (xs (x3 + 3).toNatClampNeg) (xs (x3 + 4).toNatClampNeg) (xs (x3 + 5).toNatClampNeg) r M2 hfm) ⟨⟨rfl, rfl, Nat.le_of_ble_eq_true rfl, Nat.le_of_ble_eq_true rfl⟩, (by show _ ≤ 600000; omega), (by show _ ≤ 7302250; omega)⟩ rfl rfl (Nat.le_of_ble_eq_true rfl) dL_law_545) w (fun H w => ?_)
      refine lv_icmp_eq (tgt := 1333) hx hb dL_law_548 (by decide) (fun _ => ?_) (fun q => absurd rfl q)
      refine W.widen (k := 100 + 12 * (k + 1)) (n := 30000 + 600 * (k + 1)) (by omega) (by omega) ?_
      exact K S V2 M2 H w hR2 (by omega) hk3 ls hl
    rcases Decidable.em (w0 = (9 : Int32)) with c10 | c10
    · refine lv_tableIn (tgt := 553) hx hb dL_law_33 (by rw [c10]; decide) (by rw [c10]; decide) (by rw [c10]; rfl) (by decide) ?_
      obtain ⟨r, V2, M2, hfx, hfm, hR2⟩ := ops.2.2.2.2.2.2.2.2.2.2.1 S V Vm hR (xs (x3 + 1).toNatClampNeg)
      refine lv_aload_n hx hb dL_law_553 rfl (lv_at hl 1 rfl) ?_
      refine lv_aload_n hx hb dL_law_554 rfl (lv_at hl 0 rfl) ?_
      refine lv_iload_n hx hb dL_law_555 rfl (lv_at hl 3 rfl) ?_
      refine lv_iconst (v := 1) hx hb dL_law_556 (by decide) ?_
      refine lv_iadd hx hb dL_law_557 ?_
      refine va_sld hx hb hX hbl hbX w.wx.2 (hv 1 (by decide)) dL_law_558 ?_
      refine lx_i (m_rV (As := [.int (xs (x3 + 1).toNatClampNeg)]) (rest := []) XX w.wx hl mi_X8_end ml_L_53 0 (shn hsh 0 rfl) (shk hsh 0 rfl : S.2.1 0 = 8) rfl (c_X8_end l D cy (adX s.heap.size) (AX s.heap.size) (KX (AX s.heap.size) aK aV) CX N S V 0 hsh (xs (x3 + 1).toNatClampNeg) r V2 hfx) ⟨⟨rfl, rfl, Nat.le_of_ble_eq_true rfl, Nat.le_of_ble_eq_true rfl⟩, (by show _ ≤ 600000; omega), (by show _ ≤ 7302250; omega)⟩ rfl rfl (Nat.le_of_ble_eq_true rfl) dL_law_559) w (by omega) (fun H w => ?_)
      refine lv_aload_n hx hb dL_law_562 rfl (lv_at hl 2 rfl) ?_
      refine lv_aload_n hx hb dL_law_563 rfl (lv_at hl 0 rfl) ?_
      refine lv_iload_n hx hb dL_law_564 rfl (lv_at hl 3 rfl) ?_
      refine lv_iconst (v := 1) hx hb dL_law_565 (by decide) ?_
      refine lv_iadd hx hb dL_law_566 ?_
      refine va_sld hx hb hX hbl hbX w.wx.2 (hv 1 (by decide)) dL_law_567 ?_
      refine lm_i (m_rV (As := [.int (xs (x3 + 1).toNatClampNeg)]) (rest := [.int r]) XM w.wm hl mi_X9_end ml_L_56 0 sm_n0 sm_k0 rfl (c_X9_end l D cy (adM s.heap.size) (AM s.heap.size) (KX (AM s.heap.size) aKm aVm) CM N H.size Vm (xs (x3 + 1).toNatClampNeg) r M2 hfm) ⟨⟨rfl, rfl, Nat.le_of_ble_eq_true rfl, Nat.le_of_ble_eq_true rfl⟩, (by show _ ≤ 600000; omega), (by show _ ≤ 7302250; omega)⟩ rfl rfl (Nat.le_of_ble_eq_true rfl) dL_law_568) w (fun H w => ?_)
      refine lv_icmp_eq (tgt := 1333) hx hb dL_law_571 (by decide) (fun _ => ?_) (fun q => absurd rfl q)
      refine W.widen (k := 100 + 12 * (k + 1)) (n := 30000 + 600 * (k + 1)) (by omega) (by omega) ?_
      exact K S V2 M2 H w hR2 (by omega) hk3 ls hl
    rcases Decidable.em (w0 = (10 : Int32)) with c11 | c11
    · refine lv_tableIn (tgt := 576) hx hb dL_law_33 (by rw [c11]; decide) (by rw [c11]; decide) (by rw [c11]; rfl) (by decide) ?_
      obtain ⟨r, V2, M2, hfx, hfm, hR2⟩ := ops.2.2.2.2.2.2.2.2.2.2.2.1 S V Vm hR ()
      refine lv_aload_n hx hb dL_law_576 rfl (lv_at hl 1 rfl) ?_
      refine lx_i (m_rV (As := []) (rest := []) XX w.wx hl mi_X8_row ml_L_57 0 (shn hsh 0 rfl) (shk hsh 0 rfl : S.2.1 0 = 8) rfl (c_X8_row l D cy (adX s.heap.size) (AX s.heap.size) (KX (AX s.heap.size) aK aV) CX N S V 0 hsh  r V2 hfx) ⟨⟨rfl, rfl, Nat.le_of_ble_eq_true rfl, Nat.le_of_ble_eq_true rfl⟩, (by show _ ≤ 600000; omega), (by show _ ≤ 7302250; omega)⟩ rfl rfl (Nat.le_of_ble_eq_true rfl) dL_law_577) w (by omega) (fun H w => ?_)
      refine lv_aload_n hx hb dL_law_580 rfl (lv_at hl 2 rfl) ?_
      refine lm_i (m_rV (As := []) (rest := [.int r]) XM w.wm hl mi_X9_row ml_L_61 0 sm_n0 sm_k0 rfl (c_X9_row l D cy (adM s.heap.size) (AM s.heap.size) (KX (AM s.heap.size) aKm aVm) CM N H.size Vm  r M2 hfm) ⟨⟨rfl, rfl, Nat.le_of_ble_eq_true rfl, Nat.le_of_ble_eq_true rfl⟩, (by show _ ≤ 600000; omega), (by show _ ≤ 7302250; omega)⟩ rfl rfl (Nat.le_of_ble_eq_true rfl) dL_law_581) w (fun H w => ?_)
      refine lv_icmp_eq (tgt := 1333) hx hb dL_law_584 (by decide) (fun _ => ?_) (fun q => absurd rfl q)
      refine W.widen (k := 100 + 12 * (k + 1)) (n := 30000 + 600 * (k + 1)) (by omega) (by omega) ?_
      exact K S V2 M2 H w hR2 (by omega) hk3 ls hl
    rcases Decidable.em (w0 = (11 : Int32)) with c12 | c12
    · refine lv_tableIn (tgt := 589) hx hb dL_law_33 (by rw [c12]; decide) (by rw [c12]; decide) (by rw [c12]; rfl) (by decide) ?_
      obtain ⟨r, hfx, hfm, hR2⟩ := ops.2.2.2.2.2.2.2.2.2.2.2.2.1 S V Vm hR ()
      refine lv_aload_n hx hb dL_law_589 rfl (lv_at hl 1 rfl) ?_
      refine lx_i (m_rV (As := []) (rest := []) XX w.wx hl mi_X8_smudges ml_L_62 0 (shn hsh 0 rfl) (shk hsh 0 rfl : S.2.1 0 = 8) rfl (c_X8_smudges l D cy (adX s.heap.size) (AX s.heap.size) (KX (AX s.heap.size) aK aV) CX N S V 0 hsh  r hfx) ⟨⟨rfl, rfl, Nat.le_of_ble_eq_true rfl, Nat.le_of_ble_eq_true rfl⟩, (by show _ ≤ 600000; omega), (by show _ ≤ 7302250; omega)⟩ rfl rfl (Nat.le_of_ble_eq_true rfl) dL_law_590) w (by omega) (fun H w => ?_)
      refine lv_aload_n hx hb dL_law_593 rfl (lv_at hl 2 rfl) ?_
      refine lm_i (m_rV (As := []) (rest := [.int r]) XM w.wm hl mi_X9_smudges ml_L_65 0 sm_n0 sm_k0 rfl (c_X9_smudges l D cy (adM s.heap.size) (AM s.heap.size) (KX (AM s.heap.size) aKm aVm) CM N H.size Vm  r hfm) ⟨⟨rfl, rfl, Nat.le_of_ble_eq_true rfl, Nat.le_of_ble_eq_true rfl⟩, (by show _ ≤ 600000; omega), (by show _ ≤ 7302250; omega)⟩ rfl rfl (Nat.le_of_ble_eq_true rfl) dL_law_594) w (fun H w => ?_)
      refine lv_icmp_eq (tgt := 1333) hx hb dL_law_597 (by decide) (fun _ => ?_) (fun q => absurd rfl q)
      refine W.widen (k := 100 + 12 * (k + 1)) (n := 30000 + 600 * (k + 1)) (by omega) (by omega) ?_
      exact K S V Vm H w hR2 (by omega) hk3 ls hl
    rcases Decidable.em (w0 = (12 : Int32)) with c13 | c13
    · refine lv_tableIn (tgt := 602) hx hb dL_law_33 (by rw [c13]; decide) (by rw [c13]; decide) (by rw [c13]; rfl) (by decide) ?_
      obtain ⟨r, S2, V2, M2, hfx, hfm, hR2, hS2⟩ := ops.2.2.2.2.2.2.2.2.2.2.2.2.2.1 S V Vm hR ()
      refine lv_aload_n hx hb dL_law_602 rfl (lv_at hl 1 rfl) ?_
      refine lx_i (m_rV (As := []) (rest := []) XX w.wx hl mi_X8_law ml_L_66 0 (shn hsh 0 rfl) (shk hsh 0 rfl : S.2.1 0 = 8) rfl (c_X8_law l D cy (adX s.heap.size) (AX s.heap.size) aK aV CX N S V 0 hsh  r S2 V2 hfx) ⟨⟨rfl, rfl, Nat.le_of_ble_eq_true rfl, Nat.le_of_ble_eq_true rfl⟩, (by show _ ≤ 600000; omega), (by show _ ≤ 7302250; omega)⟩ rfl rfl (Nat.le_of_ble_eq_true rfl) dL_law_603) w (by omega) (fun H w => ?_)
      refine lv_aload_n hx hb dL_law_606 rfl (lv_at hl 2 rfl) ?_
      refine lm_i (m_rV (As := []) (rest := [.int r]) XM w.wm hl mi_X9_law ml_L_69 0 sm_n0 sm_k0 rfl (c_X9_law l D cy (adM s.heap.size) (AM s.heap.size) (KX (AM s.heap.size) aKm aVm) CM N H.size Vm  r M2 hfm) ⟨⟨rfl, rfl, Nat.le_of_ble_eq_true rfl, Nat.le_of_ble_eq_true rfl⟩, (by show _ ≤ 600000; omega), (by show _ ≤ 7302250; omega)⟩ rfl rfl (Nat.le_of_ble_eq_true rfl) dL_law_607) w (fun H w => ?_)
      refine lv_icmp_eq (tgt := 1333) hx hb dL_law_610 (by decide) (fun _ => ?_) (fun q => absurd rfl q)
      refine W.widen (k := 100 + 12 * (k + 1)) (n := 30000 + 600 * (k + 1)) (by omega) (by omega) ?_
      exact K S2 V2 M2 H w hR2 (by omega) hk3 ls hl
    rcases Decidable.em (w0 = (13 : Int32)) with c14 | c14
    · refine lv_tableIn (tgt := 615) hx hb dL_law_33 (by rw [c14]; decide) (by rw [c14]; decide) (by rw [c14]; rfl) (by decide) ?_
      obtain ⟨r, S2, V2, M2, hfx, hfm, hR2, hS2⟩ := ops.2.2.2.2.2.2.2.2.2.2.2.2.2.2.1 S V Vm hR ()
      refine lv_aload_n hx hb dL_law_615 rfl (lv_at hl 1 rfl) ?_
      refine lx_i (m_rV (As := []) (rest := []) XX w.wx hl mi_X8_orders ml_L_70 0 (shn hsh 0 rfl) (shk hsh 0 rfl : S.2.1 0 = 8) rfl (c_X8_orders l D cy (adX s.heap.size) (AX s.heap.size) aK aV CX N S V 0 hsh  r S2 V2 hfx) ⟨⟨rfl, rfl, Nat.le_of_ble_eq_true rfl, Nat.le_of_ble_eq_true rfl⟩, (by show _ ≤ 600000; omega), (by show _ ≤ 7302250; omega)⟩ rfl rfl (Nat.le_of_ble_eq_true rfl) dL_law_616) w (by omega) (fun H w => ?_)
      refine lv_aload_n hx hb dL_law_619 rfl (lv_at hl 2 rfl) ?_
      refine lm_i (m_rV (As := []) (rest := [.int r]) XM w.wm hl mi_X9_orders ml_L_73 0 sm_n0 sm_k0 rfl (c_X9_orders l D cy (adM s.heap.size) (AM s.heap.size) (KX (AM s.heap.size) aKm aVm) CM N H.size Vm  r M2 hfm) ⟨⟨rfl, rfl, Nat.le_of_ble_eq_true rfl, Nat.le_of_ble_eq_true rfl⟩, (by show _ ≤ 600000; omega), (by show _ ≤ 7302250; omega)⟩ rfl rfl (Nat.le_of_ble_eq_true rfl) dL_law_620) w (fun H w => ?_)
      refine lv_icmp_eq (tgt := 1333) hx hb dL_law_623 (by decide) (fun _ => ?_) (fun q => absurd rfl q)
      refine W.widen (k := 100 + 12 * (k + 1)) (n := 30000 + 600 * (k + 1)) (by omega) (by omega) ?_
      exact K S2 V2 M2 H w hR2 (by omega) hk3 ls hl
    rcases Decidable.em (w0 = (14 : Int32)) with c15 | c15
    · refine lv_tableIn (tgt := 628) hx hb dL_law_33 (by rw [c15]; decide) (by rw [c15]; decide) (by rw [c15]; rfl) (by decide) ?_
      obtain ⟨r, hfx, hfm, hR2⟩ := ops.2.2.2.2.2.2.2.2.2.2.2.2.2.2.2.1 S V Vm hR ()
      refine lv_aload_n hx hb dL_law_628 rfl (lv_at hl 1 rfl) ?_
      refine lx_i (m_rV (As := []) (rest := []) XX w.wx hl mi_X8_fault ml_L_74 0 (shn hsh 0 rfl) (shk hsh 0 rfl : S.2.1 0 = 8) rfl (c_X8_fault l D cy (adX s.heap.size) (AX s.heap.size) (KX (AX s.heap.size) aK aV) CX N S V 0 hsh  r hfx) ⟨⟨rfl, rfl, Nat.le_of_ble_eq_true rfl, Nat.le_of_ble_eq_true rfl⟩, (by show _ ≤ 600000; omega), (by show _ ≤ 7302250; omega)⟩ rfl rfl (Nat.le_of_ble_eq_true rfl) dL_law_629) w (by omega) (fun H w => ?_)
      refine lv_aload_n hx hb dL_law_632 rfl (lv_at hl 2 rfl) ?_
      refine lm_i (m_rV (As := []) (rest := [.int r]) XM w.wm hl mi_X9_fault ml_L_77 0 sm_n0 sm_k0 rfl (c_X9_fault l D cy (adM s.heap.size) (AM s.heap.size) (KX (AM s.heap.size) aKm aVm) CM N H.size Vm  r hfm) ⟨⟨rfl, rfl, Nat.le_of_ble_eq_true rfl, Nat.le_of_ble_eq_true rfl⟩, (by show _ ≤ 600000; omega), (by show _ ≤ 7302250; omega)⟩ rfl rfl (Nat.le_of_ble_eq_true rfl) dL_law_633) w (fun H w => ?_)
      refine lv_icmp_eq (tgt := 1333) hx hb dL_law_636 (by decide) (fun _ => ?_) (fun q => absurd rfl q)
      refine W.widen (k := 100 + 12 * (k + 1)) (n := 30000 + 600 * (k + 1)) (by omega) (by omega) ?_
      exact K S V Vm H w hR2 (by omega) hk3 ls hl
    rcases Decidable.em (w0 = (15 : Int32)) with c16 | c16
    · refine lv_tableIn (tgt := 641) hx hb dL_law_33 (by rw [c16]; decide) (by rw [c16]; decide) (by rw [c16]; rfl) (by decide) ?_
      obtain ⟨r, hfx, hfm, hR2⟩ := ops.2.2.2.2.2.2.2.2.2.2.2.2.2.2.2.2.1 S V Vm hR ()
      refine lv_aload_n hx hb dL_law_641 rfl (lv_at hl 1 rfl) ?_
      refine lx_i (m_rV (As := []) (rest := []) XX w.wx hl mi_X8_stopped ml_L_78 0 (shn hsh 0 rfl) (shk hsh 0 rfl : S.2.1 0 = 8) rfl (c_X8_stopped l D cy (adX s.heap.size) (AX s.heap.size) (KX (AX s.heap.size) aK aV) CX N S V 0 hsh  r hfx) ⟨⟨rfl, rfl, Nat.le_of_ble_eq_true rfl, Nat.le_of_ble_eq_true rfl⟩, (by show _ ≤ 600000; omega), (by show _ ≤ 7302250; omega)⟩ rfl rfl (Nat.le_of_ble_eq_true rfl) dL_law_642) w (by omega) (fun H w => ?_)
      refine lv_aload_n hx hb dL_law_645 rfl (lv_at hl 2 rfl) ?_
      refine lm_i (m_rV (As := []) (rest := [.int r]) XM w.wm hl mi_X9_stopped ml_L_81 0 sm_n0 sm_k0 rfl (c_X9_stopped l D cy (adM s.heap.size) (AM s.heap.size) (KX (AM s.heap.size) aKm aVm) CM N H.size Vm  r hfm) ⟨⟨rfl, rfl, Nat.le_of_ble_eq_true rfl, Nat.le_of_ble_eq_true rfl⟩, (by show _ ≤ 600000; omega), (by show _ ≤ 7302250; omega)⟩ rfl rfl (Nat.le_of_ble_eq_true rfl) dL_law_646) w (fun H w => ?_)
      refine lv_icmp_eq (tgt := 1333) hx hb dL_law_649 (by decide) (fun _ => ?_) (fun q => absurd rfl q)
      refine W.widen (k := 100 + 12 * (k + 1)) (n := 30000 + 600 * (k + 1)) (by omega) (by omega) ?_
      exact K S V Vm H w hR2 (by omega) hk3 ls hl
    rcases Decidable.em (w0 = (16 : Int32)) with c17 | c17
    · refine lv_tableIn (tgt := 654) hx hb dL_law_33 (by rw [c17]; decide) (by rw [c17]; decide) (by rw [c17]; rfl) (by decide) ?_
      obtain ⟨r, V2, M2, hfx, hfm, hR2⟩ := ops.2.2.2.2.2.2.2.2.2.2.2.2.2.2.2.2.2.1 S V Vm hR (xs (x3 + 1).toNatClampNeg)
      refine lv_aload_n hx hb dL_law_654 rfl (lv_at hl 1 rfl) ?_
      refine lv_aload_n hx hb dL_law_655 rfl (lv_at hl 0 rfl) ?_
      refine lv_iload_n hx hb dL_law_656 rfl (lv_at hl 3 rfl) ?_
      refine lv_iconst (v := 1) hx hb dL_law_657 (by decide) ?_
      refine lv_iadd hx hb dL_law_658 ?_
      refine va_sld hx hb hX hbl hbX w.wx.2 (hv 1 (by decide)) dL_law_659 ?_
      refine lx_i (m_rV (As := [.int (xs (x3 + 1).toNatClampNeg)]) (rest := []) XX w.wx hl mi_X8_force ml_L_82 0 (shn hsh 0 rfl) (shk hsh 0 rfl : S.2.1 0 = 8) rfl (c_X8_force l D cy (adX s.heap.size) (AX s.heap.size) (KX (AX s.heap.size) aK aV) CX N S V 0 hsh (xs (x3 + 1).toNatClampNeg) r V2 hfx) ⟨⟨rfl, rfl, Nat.le_of_ble_eq_true rfl, Nat.le_of_ble_eq_true rfl⟩, (by show _ ≤ 600000; omega), (by show _ ≤ 7302250; omega)⟩ rfl rfl (Nat.le_of_ble_eq_true rfl) dL_law_660) w (by omega) (fun H w => ?_)
      refine lv_aload_n hx hb dL_law_663 rfl (lv_at hl 2 rfl) ?_
      refine lv_aload_n hx hb dL_law_664 rfl (lv_at hl 0 rfl) ?_
      refine lv_iload_n hx hb dL_law_665 rfl (lv_at hl 3 rfl) ?_
      refine lv_iconst (v := 1) hx hb dL_law_666 (by decide) ?_
      refine lv_iadd hx hb dL_law_667 ?_
      refine va_sld hx hb hX hbl hbX w.wx.2 (hv 1 (by decide)) dL_law_668 ?_
      refine lm_i (m_rV (As := [.int (xs (x3 + 1).toNatClampNeg)]) (rest := [.int r]) XM w.wm hl mi_X9_force ml_L_85 0 sm_n0 sm_k0 rfl (c_X9_force l D cy (adM s.heap.size) (AM s.heap.size) (KX (AM s.heap.size) aKm aVm) CM N H.size Vm (xs (x3 + 1).toNatClampNeg) r M2 hfm) ⟨⟨rfl, rfl, Nat.le_of_ble_eq_true rfl, Nat.le_of_ble_eq_true rfl⟩, (by show _ ≤ 600000; omega), (by show _ ≤ 7302250; omega)⟩ rfl rfl (Nat.le_of_ble_eq_true rfl) dL_law_669) w (fun H w => ?_)
      refine lv_icmp_eq (tgt := 1333) hx hb dL_law_672 (by decide) (fun _ => ?_) (fun q => absurd rfl q)
      refine W.widen (k := 100 + 12 * (k + 1)) (n := 30000 + 600 * (k + 1)) (by omega) (by omega) ?_
      exact K S V2 M2 H w hR2 (by omega) hk3 ls hl
    rcases Decidable.em (w0 = (17 : Int32)) with c18 | c18
    · refine lv_tableIn (tgt := 677) hx hb dL_law_33 (by rw [c18]; decide) (by rw [c18]; decide) (by rw [c18]; rfl) (by decide) ?_
      obtain ⟨r, V2, M2, hfx, hfm, hR2⟩ := ops.2.2.2.2.2.2.2.2.2.2.2.2.2.2.2.2.2.2.1 S V Vm hR (xs (x3 + 1).toNatClampNeg) (xs (x3 + 2).toNatClampNeg)
      refine lv_aload_n hx hb dL_law_677 rfl (lv_at hl 1 rfl) ?_
      refine lv_aload_n hx hb dL_law_678 rfl (lv_at hl 0 rfl) ?_
      refine lv_iload_n hx hb dL_law_679 rfl (lv_at hl 3 rfl) ?_
      refine lv_iconst (v := 1) hx hb dL_law_680 (by decide) ?_
      refine lv_iadd hx hb dL_law_681 ?_
      refine va_sld hx hb hX hbl hbX w.wx.2 (hv 1 (by decide)) dL_law_682 ?_
      refine lv_aload_n hx hb dL_law_683 rfl (lv_at hl 0 rfl) ?_
      refine lv_iload_n hx hb dL_law_684 rfl (lv_at hl 3 rfl) ?_
      refine lv_iconst (v := 2) hx hb dL_law_685 (by decide) ?_
      refine lv_iadd hx hb dL_law_686 ?_
      refine va_sld hx hb hX hbl hbX w.wx.2 (hv 2 (by decide)) dL_law_687 ?_
      refine lx_i (m_rV (As := [.int (xs (x3 + 1).toNatClampNeg), .int (xs (x3 + 2).toNatClampNeg)]) (rest := []) XX w.wx hl mi_X8_take ml_L_86 0 (shn hsh 0 rfl) (shk hsh 0 rfl : S.2.1 0 = 8) rfl (c_X8_take l D cy (adX s.heap.size) (AX s.heap.size) (KX (AX s.heap.size) aK aV) CX N S V 0 hsh (xs (x3 + 1).toNatClampNeg) (xs (x3 + 2).toNatClampNeg) r V2 hfx) ⟨⟨rfl, rfl, Nat.le_of_ble_eq_true rfl, Nat.le_of_ble_eq_true rfl⟩, (by show _ ≤ 600000; omega), (by show _ ≤ 7302250; omega)⟩ rfl rfl (Nat.le_of_ble_eq_true rfl) dL_law_688) w (by omega) (fun H w => ?_)
      refine lv_aload_n hx hb dL_law_691 rfl (lv_at hl 2 rfl) ?_
      refine lv_aload_n hx hb dL_law_692 rfl (lv_at hl 0 rfl) ?_
      refine lv_iload_n hx hb dL_law_693 rfl (lv_at hl 3 rfl) ?_
      refine lv_iconst (v := 1) hx hb dL_law_694 (by decide) ?_
      refine lv_iadd hx hb dL_law_695 ?_
      refine va_sld hx hb hX hbl hbX w.wx.2 (hv 1 (by decide)) dL_law_696 ?_
      refine lv_aload_n hx hb dL_law_697 rfl (lv_at hl 0 rfl) ?_
      refine lv_iload_n hx hb dL_law_698 rfl (lv_at hl 3 rfl) ?_
      refine lv_iconst (v := 2) hx hb dL_law_699 (by decide) ?_
      refine lv_iadd hx hb dL_law_700 ?_
      refine va_sld hx hb hX hbl hbX w.wx.2 (hv 2 (by decide)) dL_law_701 ?_
      refine lm_i (m_rV (As := [.int (xs (x3 + 1).toNatClampNeg), .int (xs (x3 + 2).toNatClampNeg)]) (rest := [.int r]) XM w.wm hl mi_X9_take ml_L_89 0 sm_n0 sm_k0 rfl (c_X9_take l D cy (adM s.heap.size) (AM s.heap.size) (KX (AM s.heap.size) aKm aVm) CM N H.size Vm (xs (x3 + 1).toNatClampNeg) (xs (x3 + 2).toNatClampNeg) r M2 hfm) ⟨⟨rfl, rfl, Nat.le_of_ble_eq_true rfl, Nat.le_of_ble_eq_true rfl⟩, (by show _ ≤ 600000; omega), (by show _ ≤ 7302250; omega)⟩ rfl rfl (Nat.le_of_ble_eq_true rfl) dL_law_702) w (fun H w => ?_)
      refine lv_icmp_eq (tgt := 1333) hx hb dL_law_705 (by decide) (fun _ => ?_) (fun q => absurd rfl q)
      refine W.widen (k := 100 + 12 * (k + 1)) (n := 30000 + 600 * (k + 1)) (by omega) (by omega) ?_
      exact K S V2 M2 H w hR2 (by omega) hk3 ls hl
    rcases Decidable.em (w0 = (18 : Int32)) with c19 | c19
    · refine lv_tableIn (tgt := 710) hx hb dL_law_33 (by rw [c19]; decide) (by rw [c19]; decide) (by rw [c19]; rfl) (by decide) ?_
      obtain ⟨r, V2, M2, hfx, hfm, hR2⟩ := ops.2.2.2.2.2.2.2.2.2.2.2.2.2.2.2.2.2.2.2.1 S V Vm hR (xs (x3 + 1).toNatClampNeg) (xs (x3 + 2).toNatClampNeg) (xs (x3 + 3).toNatClampNeg)
      refine lv_aload_n hx hb dL_law_710 rfl (lv_at hl 1 rfl) ?_
      refine lv_aload_n hx hb dL_law_711 rfl (lv_at hl 0 rfl) ?_
      refine lv_iload_n hx hb dL_law_712 rfl (lv_at hl 3 rfl) ?_
      refine lv_iconst (v := 1) hx hb dL_law_713 (by decide) ?_
      refine lv_iadd hx hb dL_law_714 ?_
      refine va_sld hx hb hX hbl hbX w.wx.2 (hv 1 (by decide)) dL_law_715 ?_
      refine lv_aload_n hx hb dL_law_716 rfl (lv_at hl 0 rfl) ?_
      refine lv_iload_n hx hb dL_law_717 rfl (lv_at hl 3 rfl) ?_
      refine lv_iconst (v := 2) hx hb dL_law_718 (by decide) ?_
      refine lv_iadd hx hb dL_law_719 ?_
      refine va_sld hx hb hX hbl hbX w.wx.2 (hv 2 (by decide)) dL_law_720 ?_
      refine lv_aload_n hx hb dL_law_721 rfl (lv_at hl 0 rfl) ?_
      refine lv_iload_n hx hb dL_law_722 rfl (lv_at hl 3 rfl) ?_
      refine lv_iconst (v := 3) hx hb dL_law_723 (by decide) ?_
      refine lv_iadd hx hb dL_law_724 ?_
      refine va_sld hx hb hX hbl hbX w.wx.2 (hv 3 (by decide)) dL_law_725 ?_
      refine lx_i (m_rV (As := [.int (xs (x3 + 1).toNatClampNeg), .int (xs (x3 + 2).toNatClampNeg), .int (xs (x3 + 3).toNatClampNeg)]) (rest := []) XX w.wx hl mi_X8_shift ml_L_90 0 (shn hsh 0 rfl) (shk hsh 0 rfl : S.2.1 0 = 8) rfl (c_X8_shift l D cy (adX s.heap.size) (AX s.heap.size) (KX (AX s.heap.size) aK aV) CX N S V 0 hsh (xs (x3 + 1).toNatClampNeg) (xs (x3 + 2).toNatClampNeg) (xs (x3 + 3).toNatClampNeg) r V2 hfx) ⟨⟨rfl, rfl, Nat.le_of_ble_eq_true rfl, Nat.le_of_ble_eq_true rfl⟩, (by show _ ≤ 600000; omega), (by show _ ≤ 7302250; omega)⟩ rfl rfl (Nat.le_of_ble_eq_true rfl) dL_law_726) w (by omega) (fun H w => ?_)
      refine lv_aload_n hx hb dL_law_729 rfl (lv_at hl 2 rfl) ?_
      refine lv_aload_n hx hb dL_law_730 rfl (lv_at hl 0 rfl) ?_
      refine lv_iload_n hx hb dL_law_731 rfl (lv_at hl 3 rfl) ?_
      refine lv_iconst (v := 1) hx hb dL_law_732 (by decide) ?_
      refine lv_iadd hx hb dL_law_733 ?_
      refine va_sld hx hb hX hbl hbX w.wx.2 (hv 1 (by decide)) dL_law_734 ?_
      refine lv_aload_n hx hb dL_law_735 rfl (lv_at hl 0 rfl) ?_
      refine lv_iload_n hx hb dL_law_736 rfl (lv_at hl 3 rfl) ?_
      refine lv_iconst (v := 2) hx hb dL_law_737 (by decide) ?_
      refine lv_iadd hx hb dL_law_738 ?_
      refine va_sld hx hb hX hbl hbX w.wx.2 (hv 2 (by decide)) dL_law_739 ?_
      refine lv_aload_n hx hb dL_law_740 rfl (lv_at hl 0 rfl) ?_
      refine lv_iload_n hx hb dL_law_741 rfl (lv_at hl 3 rfl) ?_
      refine lv_iconst (v := 3) hx hb dL_law_742 (by decide) ?_
      refine lv_iadd hx hb dL_law_743 ?_
      refine va_sld hx hb hX hbl hbX w.wx.2 (hv 3 (by decide)) dL_law_744 ?_
      refine lm_i (m_rV (As := [.int (xs (x3 + 1).toNatClampNeg), .int (xs (x3 + 2).toNatClampNeg), .int (xs (x3 + 3).toNatClampNeg)]) (rest := [.int r]) XM w.wm hl mi_X9_shift ml_L_93 0 sm_n0 sm_k0 rfl (c_X9_shift l D cy (adM s.heap.size) (AM s.heap.size) (KX (AM s.heap.size) aKm aVm) CM N H.size Vm (xs (x3 + 1).toNatClampNeg) (xs (x3 + 2).toNatClampNeg) (xs (x3 + 3).toNatClampNeg) r M2 hfm) ⟨⟨rfl, rfl, Nat.le_of_ble_eq_true rfl, Nat.le_of_ble_eq_true rfl⟩, (by show _ ≤ 600000; omega), (by show _ ≤ 7302250; omega)⟩ rfl rfl (Nat.le_of_ble_eq_true rfl) dL_law_745) w (fun H w => ?_)
      refine lv_icmp_eq (tgt := 1333) hx hb dL_law_748 (by decide) (fun _ => ?_) (fun q => absurd rfl q)
      refine W.widen (k := 100 + 12 * (k + 1)) (n := 30000 + 600 * (k + 1)) (by omega) (by omega) ?_
      exact K S V2 M2 H w hR2 (by omega) hk3 ls hl
    rcases Decidable.em (w0 = (19 : Int32)) with c20 | c20
    · refine lv_tableIn (tgt := 753) hx hb dL_law_33 (by rw [c20]; decide) (by rw [c20]; decide) (by rw [c20]; rfl) (by decide) ?_
      obtain ⟨r, V2, M2, hfx, hfm, hR2⟩ := ops.2.2.2.2.2.2.2.2.2.2.2.2.2.2.2.2.2.2.2.2.1 S V Vm hR (xs (x3 + 1).toNatClampNeg)
      refine lv_aload_n hx hb dL_law_753 rfl (lv_at hl 1 rfl) ?_
      refine lv_aload_n hx hb dL_law_754 rfl (lv_at hl 0 rfl) ?_
      refine lv_iload_n hx hb dL_law_755 rfl (lv_at hl 3 rfl) ?_
      refine lv_iconst (v := 1) hx hb dL_law_756 (by decide) ?_
      refine lv_iadd hx hb dL_law_757 ?_
      refine va_sld hx hb hX hbl hbX w.wx.2 (hv 1 (by decide)) dL_law_758 ?_
      refine lx_i (m_rV (As := [.int (xs (x3 + 1).toNatClampNeg)]) (rest := []) XX w.wx hl mi_X8_fence ml_L_94 0 (shn hsh 0 rfl) (shk hsh 0 rfl : S.2.1 0 = 8) rfl (c_X8_fence l D cy (adX s.heap.size) (AX s.heap.size) (KX (AX s.heap.size) aK aV) CX N S V 0 hsh (xs (x3 + 1).toNatClampNeg) r V2 hfx) ⟨⟨rfl, rfl, Nat.le_of_ble_eq_true rfl, Nat.le_of_ble_eq_true rfl⟩, (by show _ ≤ 600000; omega), (by show _ ≤ 7302250; omega)⟩ rfl rfl (Nat.le_of_ble_eq_true rfl) dL_law_759) w (by omega) (fun H w => ?_)
      refine lv_aload_n hx hb dL_law_762 rfl (lv_at hl 2 rfl) ?_
      refine lv_aload_n hx hb dL_law_763 rfl (lv_at hl 0 rfl) ?_
      refine lv_iload_n hx hb dL_law_764 rfl (lv_at hl 3 rfl) ?_
      refine lv_iconst (v := 1) hx hb dL_law_765 (by decide) ?_
      refine lv_iadd hx hb dL_law_766 ?_
      refine va_sld hx hb hX hbl hbX w.wx.2 (hv 1 (by decide)) dL_law_767 ?_
      refine lm_i (m_rV (As := [.int (xs (x3 + 1).toNatClampNeg)]) (rest := [.int r]) XM w.wm hl mi_X9_fence ml_L_97 0 sm_n0 sm_k0 rfl (c_X9_fence l D cy (adM s.heap.size) (AM s.heap.size) (KX (AM s.heap.size) aKm aVm) CM N H.size Vm (xs (x3 + 1).toNatClampNeg) r M2 hfm) ⟨⟨rfl, rfl, Nat.le_of_ble_eq_true rfl, Nat.le_of_ble_eq_true rfl⟩, (by show _ ≤ 600000; omega), (by show _ ≤ 7302250; omega)⟩ rfl rfl (Nat.le_of_ble_eq_true rfl) dL_law_768) w (fun H w => ?_)
      refine lv_icmp_eq (tgt := 1333) hx hb dL_law_771 (by decide) (fun _ => ?_) (fun q => absurd rfl q)
      refine W.widen (k := 100 + 12 * (k + 1)) (n := 30000 + 600 * (k + 1)) (by omega) (by omega) ?_
      exact K S V2 M2 H w hR2 (by omega) hk3 ls hl
    rcases Decidable.em (w0 = (20 : Int32)) with c21 | c21
    · refine lv_tableIn (tgt := 776) hx hb dL_law_33 (by rw [c21]; decide) (by rw [c21]; decide) (by rw [c21]; rfl) (by decide) ?_
      obtain ⟨r, V2, M2, hfx, hfm, hR2⟩ := ops.2.2.2.2.2.2.2.2.2.2.2.2.2.2.2.2.2.2.2.2.2.1 S V Vm hR ()
      refine lv_aload_n hx hb dL_law_776 rfl (lv_at hl 1 rfl) ?_
      refine lx_i (m_rV (As := []) (rest := []) XX w.wx hl mi_X8_pass ml_L_98 0 (shn hsh 0 rfl) (shk hsh 0 rfl : S.2.1 0 = 8) rfl (c_X8_pass l D cy (adX s.heap.size) (AX s.heap.size) (KX (AX s.heap.size) aK aV) CX N S V 0 hsh  r V2 hfx) ⟨⟨rfl, rfl, Nat.le_of_ble_eq_true rfl, Nat.le_of_ble_eq_true rfl⟩, (by show _ ≤ 600000; omega), (by show _ ≤ 7302250; omega)⟩ rfl rfl (Nat.le_of_ble_eq_true rfl) dL_law_777) w (by omega) (fun H w => ?_)
      refine lv_aload_n hx hb dL_law_780 rfl (lv_at hl 2 rfl) ?_
      refine lm_i (m_rV (As := []) (rest := [.int r]) XM w.wm hl mi_X9_pass ml_L_101 0 sm_n0 sm_k0 rfl (c_X9_pass l D cy (adM s.heap.size) (AM s.heap.size) (KX (AM s.heap.size) aKm aVm) CM N H.size Vm  r M2 hfm) ⟨⟨rfl, rfl, Nat.le_of_ble_eq_true rfl, Nat.le_of_ble_eq_true rfl⟩, (by show _ ≤ 600000; omega), (by show _ ≤ 7302250; omega)⟩ rfl rfl (Nat.le_of_ble_eq_true rfl) dL_law_781) w (fun H w => ?_)
      refine lv_icmp_eq (tgt := 1333) hx hb dL_law_784 (by decide) (fun _ => ?_) (fun q => absurd rfl q)
      refine W.widen (k := 100 + 12 * (k + 1)) (n := 30000 + 600 * (k + 1)) (by omega) (by omega) ?_
      exact K S V2 M2 H w hR2 (by omega) hk3 ls hl
    rcases Decidable.em (w0 = (21 : Int32)) with c22 | c22
    · refine lv_tableIn (tgt := 789) hx hb dL_law_33 (by rw [c22]; decide) (by rw [c22]; decide) (by rw [c22]; rfl) (by decide) ?_
      obtain ⟨r, V2, M2, hfx, hfm, hR2⟩ := ops.2.2.2.2.2.2.2.2.2.2.2.2.2.2.2.2.2.2.2.2.2.2.1 S V Vm hR ()
      refine lv_aload_n hx hb dL_law_789 rfl (lv_at hl 1 rfl) ?_
      refine lx_i (m_rV (As := []) (rest := []) XX w.wx hl mi_X8_undo ml_L_102 0 (shn hsh 0 rfl) (shk hsh 0 rfl : S.2.1 0 = 8) rfl (c_X8_undo l D cy (adX s.heap.size) (AX s.heap.size) (KX (AX s.heap.size) aK aV) CX N S V 0 hsh  r V2 hfx) ⟨⟨rfl, rfl, Nat.le_of_ble_eq_true rfl, Nat.le_of_ble_eq_true rfl⟩, (by show _ ≤ 600000; omega), (by show _ ≤ 7302250; omega)⟩ rfl rfl (Nat.le_of_ble_eq_true rfl) dL_law_790) w (by omega) (fun H w => ?_)
      refine lv_aload_n hx hb dL_law_793 rfl (lv_at hl 2 rfl) ?_
      refine lm_i (m_rV (As := []) (rest := [.int r]) XM w.wm hl mi_X9_undo ml_L_105 0 sm_n0 sm_k0 rfl (c_X9_undo l D cy (adM s.heap.size) (AM s.heap.size) (KX (AM s.heap.size) aKm aVm) CM N H.size Vm  r M2 hfm) ⟨⟨rfl, rfl, Nat.le_of_ble_eq_true rfl, Nat.le_of_ble_eq_true rfl⟩, (by show _ ≤ 600000; omega), (by show _ ≤ 7302250; omega)⟩ rfl rfl (Nat.le_of_ble_eq_true rfl) dL_law_794) w (fun H w => ?_)
      refine lv_icmp_eq (tgt := 1333) hx hb dL_law_797 (by decide) (fun _ => ?_) (fun q => absurd rfl q)
      refine W.widen (k := 100 + 12 * (k + 1)) (n := 30000 + 600 * (k + 1)) (by omega) (by omega) ?_
      exact K S V2 M2 H w hR2 (by omega) hk3 ls hl
    rcases Decidable.em (w0 = (22 : Int32)) with c23 | c23
    · refine lv_tableIn (tgt := 802) hx hb dL_law_33 (by rw [c23]; decide) (by rw [c23]; decide) (by rw [c23]; rfl) (by decide) ?_
      obtain ⟨r, V2, M2, hfx, hfm, hR2⟩ := ops.2.2.2.2.2.2.2.2.2.2.2.2.2.2.2.2.2.2.2.2.2.2.2.1 S V Vm hR ()
      refine lv_aload_n hx hb dL_law_802 rfl (lv_at hl 1 rfl) ?_
      refine lx_i (m_rV (As := []) (rest := []) XX w.wx hl mi_X8_fewest ml_L_106 0 (shn hsh 0 rfl) (shk hsh 0 rfl : S.2.1 0 = 8) rfl (c_X8_fewest l D cy (adX s.heap.size) (AX s.heap.size) (KX (AX s.heap.size) aK aV) CX N S V 0 hsh  r V2 hfx) ⟨⟨rfl, rfl, Nat.le_of_ble_eq_true rfl, Nat.le_of_ble_eq_true rfl⟩, (by show _ ≤ 600000; omega), (by show _ ≤ 7302250; omega)⟩ rfl rfl (Nat.le_of_ble_eq_true rfl) dL_law_803) w (by omega) (fun H w => ?_)
      refine lv_aload_n hx hb dL_law_806 rfl (lv_at hl 2 rfl) ?_
      refine lm_i (m_rV (As := []) (rest := [.int r]) XM w.wm hl mi_X9_fewest ml_L_109 0 sm_n0 sm_k0 rfl (c_X9_fewest l D cy (adM s.heap.size) (AM s.heap.size) (KX (AM s.heap.size) aKm aVm) CM N H.size Vm  r M2 hfm) ⟨⟨rfl, rfl, Nat.le_of_ble_eq_true rfl, Nat.le_of_ble_eq_true rfl⟩, (by show _ ≤ 600000; omega), (by show _ ≤ 7302250; omega)⟩ rfl rfl (Nat.le_of_ble_eq_true rfl) dL_law_807) w (fun H w => ?_)
      refine lv_icmp_eq (tgt := 1333) hx hb dL_law_810 (by decide) (fun _ => ?_) (fun q => absurd rfl q)
      refine W.widen (k := 100 + 12 * (k + 1)) (n := 30000 + 600 * (k + 1)) (by omega) (by omega) ?_
      exact K S V2 M2 H w hR2 (by omega) hk3 ls hl
    rcases Decidable.em (w0 = (23 : Int32)) with c24 | c24
    · refine lv_tableIn (tgt := 815) hx hb dL_law_33 (by rw [c24]; decide) (by rw [c24]; decide) (by rw [c24]; rfl) (by decide) ?_
      obtain ⟨r, V2, M2, hfx, hfm, hR2⟩ := ops.2.2.2.2.2.2.2.2.2.2.2.2.2.2.2.2.2.2.2.2.2.2.2.2.1 S V Vm hR (xs (x3 + 1).toNatClampNeg)
      refine lv_aload_n hx hb dL_law_815 rfl (lv_at hl 1 rfl) ?_
      refine lv_aload_n hx hb dL_law_816 rfl (lv_at hl 0 rfl) ?_
      refine lv_iload_n hx hb dL_law_817 rfl (lv_at hl 3 rfl) ?_
      refine lv_iconst (v := 1) hx hb dL_law_818 (by decide) ?_
      refine lv_iadd hx hb dL_law_819 ?_
      refine va_sld hx hb hX hbl hbX w.wx.2 (hv 1 (by decide)) dL_law_820 ?_
      refine lx_i (m_rV (As := [.int (xs (x3 + 1).toNatClampNeg)]) (rest := []) XX w.wx hl mi_X8_turned ml_L_110 0 (shn hsh 0 rfl) (shk hsh 0 rfl : S.2.1 0 = 8) rfl (c_X8_turned l D cy (adX s.heap.size) (AX s.heap.size) (KX (AX s.heap.size) aK aV) CX N S V 0 hsh (xs (x3 + 1).toNatClampNeg) r V2 hfx) ⟨⟨rfl, rfl, Nat.le_of_ble_eq_true rfl, Nat.le_of_ble_eq_true rfl⟩, (by show _ ≤ 600000; omega), (by show _ ≤ 7302250; omega)⟩ rfl rfl (Nat.le_of_ble_eq_true rfl) dL_law_821) w (by omega) (fun H w => ?_)
      refine lv_aload_n hx hb dL_law_824 rfl (lv_at hl 2 rfl) ?_
      refine lv_aload_n hx hb dL_law_825 rfl (lv_at hl 0 rfl) ?_
      refine lv_iload_n hx hb dL_law_826 rfl (lv_at hl 3 rfl) ?_
      refine lv_iconst (v := 1) hx hb dL_law_827 (by decide) ?_
      refine lv_iadd hx hb dL_law_828 ?_
      refine va_sld hx hb hX hbl hbX w.wx.2 (hv 1 (by decide)) dL_law_829 ?_
      refine lm_i (m_rV (As := [.int (xs (x3 + 1).toNatClampNeg)]) (rest := [.int r]) XM w.wm hl mi_X9_turned ml_L_113 0 sm_n0 sm_k0 rfl (c_X9_turned l D cy (adM s.heap.size) (AM s.heap.size) (KX (AM s.heap.size) aKm aVm) CM N H.size Vm (xs (x3 + 1).toNatClampNeg) r M2 hfm) ⟨⟨rfl, rfl, Nat.le_of_ble_eq_true rfl, Nat.le_of_ble_eq_true rfl⟩, (by show _ ≤ 600000; omega), (by show _ ≤ 7302250; omega)⟩ rfl rfl (Nat.le_of_ble_eq_true rfl) dL_law_830) w (fun H w => ?_)
      refine lv_icmp_eq (tgt := 1333) hx hb dL_law_833 (by decide) (fun _ => ?_) (fun q => absurd rfl q)
      refine W.widen (k := 100 + 12 * (k + 1)) (n := 30000 + 600 * (k + 1)) (by omega) (by omega) ?_
      exact K S V2 M2 H w hR2 (by omega) hk3 ls hl
    rcases Decidable.em (w0 = (24 : Int32)) with c25 | c25
    · refine lv_tableIn (tgt := 838) hx hb dL_law_33 (by rw [c25]; decide) (by rw [c25]; decide) (by rw [c25]; rfl) (by decide) ?_
      obtain ⟨r, V2, M2, hfx, hfm, hR2⟩ := ops.2.2.2.2.2.2.2.2.2.2.2.2.2.2.2.2.2.2.2.2.2.2.2.2.2.1 S V Vm hR (xs (x3 + 1).toNatClampNeg) (xs (x3 + 2).toNatClampNeg)
      refine lv_aload_n hx hb dL_law_838 rfl (lv_at hl 1 rfl) ?_
      refine lv_aload_n hx hb dL_law_839 rfl (lv_at hl 0 rfl) ?_
      refine lv_iload_n hx hb dL_law_840 rfl (lv_at hl 3 rfl) ?_
      refine lv_iconst (v := 1) hx hb dL_law_841 (by decide) ?_
      refine lv_iadd hx hb dL_law_842 ?_
      refine va_sld hx hb hX hbl hbX w.wx.2 (hv 1 (by decide)) dL_law_843 ?_
      refine lv_aload_n hx hb dL_law_844 rfl (lv_at hl 0 rfl) ?_
      refine lv_iload_n hx hb dL_law_845 rfl (lv_at hl 3 rfl) ?_
      refine lv_iconst (v := 2) hx hb dL_law_846 (by decide) ?_
      refine lv_iadd hx hb dL_law_847 ?_
      refine va_sld hx hb hX hbl hbX w.wx.2 (hv 2 (by decide)) dL_law_848 ?_
      refine lx_i (m_rV (As := [.int (xs (x3 + 1).toNatClampNeg), .int (xs (x3 + 2).toNatClampNeg)]) (rest := []) XX w.wx hl mi_X8_hound ml_L_114 0 (shn hsh 0 rfl) (shk hsh 0 rfl : S.2.1 0 = 8) rfl (c_X8_hound l D cy (adX s.heap.size) (AX s.heap.size) (KX (AX s.heap.size) aK aV) CX N S V 0 hsh (xs (x3 + 1).toNatClampNeg) (xs (x3 + 2).toNatClampNeg) r V2 hfx) ⟨⟨rfl, rfl, Nat.le_of_ble_eq_true rfl, Nat.le_of_ble_eq_true rfl⟩, (by show _ ≤ 600000; omega), (by show _ ≤ 7302250; omega)⟩ rfl rfl (Nat.le_of_ble_eq_true rfl) dL_law_849) w (by omega) (fun H w => ?_)
      refine lv_aload_n hx hb dL_law_852 rfl (lv_at hl 2 rfl) ?_
      refine lv_aload_n hx hb dL_law_853 rfl (lv_at hl 0 rfl) ?_
      refine lv_iload_n hx hb dL_law_854 rfl (lv_at hl 3 rfl) ?_
      refine lv_iconst (v := 1) hx hb dL_law_855 (by decide) ?_
      refine lv_iadd hx hb dL_law_856 ?_
      refine va_sld hx hb hX hbl hbX w.wx.2 (hv 1 (by decide)) dL_law_857 ?_
      refine lv_aload_n hx hb dL_law_858 rfl (lv_at hl 0 rfl) ?_
      refine lv_iload_n hx hb dL_law_859 rfl (lv_at hl 3 rfl) ?_
      refine lv_iconst (v := 2) hx hb dL_law_860 (by decide) ?_
      refine lv_iadd hx hb dL_law_861 ?_
      refine va_sld hx hb hX hbl hbX w.wx.2 (hv 2 (by decide)) dL_law_862 ?_
      refine lm_i (m_rV (As := [.int (xs (x3 + 1).toNatClampNeg), .int (xs (x3 + 2).toNatClampNeg)]) (rest := [.int r]) XM w.wm hl mi_X9_hound ml_L_117 0 sm_n0 sm_k0 rfl (c_X9_hound l D cy (adM s.heap.size) (AM s.heap.size) (KX (AM s.heap.size) aKm aVm) CM N H.size Vm (xs (x3 + 1).toNatClampNeg) (xs (x3 + 2).toNatClampNeg) r M2 hfm) ⟨⟨rfl, rfl, Nat.le_of_ble_eq_true rfl, Nat.le_of_ble_eq_true rfl⟩, (by show _ ≤ 600000; omega), (by show _ ≤ 7302250; omega)⟩ rfl rfl (Nat.le_of_ble_eq_true rfl) dL_law_863) w (fun H w => ?_)
      refine lv_icmp_eq (tgt := 1333) hx hb dL_law_866 (by decide) (fun _ => ?_) (fun q => absurd rfl q)
      refine W.widen (k := 100 + 12 * (k + 1)) (n := 30000 + 600 * (k + 1)) (by omega) (by omega) ?_
      exact K S V2 M2 H w hR2 (by omega) hk3 ls hl
    rcases Decidable.em (w0 = (25 : Int32)) with c26 | c26
    · refine lv_tableIn (tgt := 871) hx hb dL_law_33 (by rw [c26]; decide) (by rw [c26]; decide) (by rw [c26]; rfl) (by decide) ?_
      obtain ⟨r, V2, M2, hfx, hfm, hR2⟩ := ops.2.2.2.2.2.2.2.2.2.2.2.2.2.2.2.2.2.2.2.2.2.2.2.2.2.2.1 S V Vm hR (xs (x3 + 1).toNatClampNeg) (xs (x3 + 2).toNatClampNeg)
      refine lv_aload_n hx hb dL_law_871 rfl (lv_at hl 1 rfl) ?_
      refine lv_aload_n hx hb dL_law_872 rfl (lv_at hl 0 rfl) ?_
      refine lv_iload_n hx hb dL_law_873 rfl (lv_at hl 3 rfl) ?_
      refine lv_iconst (v := 1) hx hb dL_law_874 (by decide) ?_
      refine lv_iadd hx hb dL_law_875 ?_
      refine va_sld hx hb hX hbl hbX w.wx.2 (hv 1 (by decide)) dL_law_876 ?_
      refine lv_aload_n hx hb dL_law_877 rfl (lv_at hl 0 rfl) ?_
      refine lv_iload_n hx hb dL_law_878 rfl (lv_at hl 3 rfl) ?_
      refine lv_iconst (v := 2) hx hb dL_law_879 (by decide) ?_
      refine lv_iadd hx hb dL_law_880 ?_
      refine va_sld hx hb hX hbl hbX w.wx.2 (hv 2 (by decide)) dL_law_881 ?_
      refine lx_i (m_rV (As := [.int (xs (x3 + 1).toNatClampNeg), .int (xs (x3 + 2).toNatClampNeg)]) (rest := []) XX w.wx hl mi_X8_ring ml_L_118 0 (shn hsh 0 rfl) (shk hsh 0 rfl : S.2.1 0 = 8) rfl (c_X8_ring l D cy (adX s.heap.size) (AX s.heap.size) (KX (AX s.heap.size) aK aV) CX N S V 0 hsh (xs (x3 + 1).toNatClampNeg) (xs (x3 + 2).toNatClampNeg) r V2 hfx) ⟨⟨rfl, rfl, Nat.le_of_ble_eq_true rfl, Nat.le_of_ble_eq_true rfl⟩, (by show _ ≤ 600000; omega), (by show _ ≤ 7302250; omega)⟩ rfl rfl (Nat.le_of_ble_eq_true rfl) dL_law_882) w (by omega) (fun H w => ?_)
      refine lv_aload_n hx hb dL_law_885 rfl (lv_at hl 2 rfl) ?_
      refine lv_aload_n hx hb dL_law_886 rfl (lv_at hl 0 rfl) ?_
      refine lv_iload_n hx hb dL_law_887 rfl (lv_at hl 3 rfl) ?_
      refine lv_iconst (v := 1) hx hb dL_law_888 (by decide) ?_
      refine lv_iadd hx hb dL_law_889 ?_
      refine va_sld hx hb hX hbl hbX w.wx.2 (hv 1 (by decide)) dL_law_890 ?_
      refine lv_aload_n hx hb dL_law_891 rfl (lv_at hl 0 rfl) ?_
      refine lv_iload_n hx hb dL_law_892 rfl (lv_at hl 3 rfl) ?_
      refine lv_iconst (v := 2) hx hb dL_law_893 (by decide) ?_
      refine lv_iadd hx hb dL_law_894 ?_
      refine va_sld hx hb hX hbl hbX w.wx.2 (hv 2 (by decide)) dL_law_895 ?_
      refine lm_i (m_rV (As := [.int (xs (x3 + 1).toNatClampNeg), .int (xs (x3 + 2).toNatClampNeg)]) (rest := [.int r]) XM w.wm hl mi_X9_ring ml_L_121 0 sm_n0 sm_k0 rfl (c_X9_ring l D cy (adM s.heap.size) (AM s.heap.size) (KX (AM s.heap.size) aKm aVm) CM N H.size Vm (xs (x3 + 1).toNatClampNeg) (xs (x3 + 2).toNatClampNeg) r M2 hfm) ⟨⟨rfl, rfl, Nat.le_of_ble_eq_true rfl, Nat.le_of_ble_eq_true rfl⟩, (by show _ ≤ 600000; omega), (by show _ ≤ 7302250; omega)⟩ rfl rfl (Nat.le_of_ble_eq_true rfl) dL_law_896) w (fun H w => ?_)
      refine lv_icmp_eq (tgt := 1333) hx hb dL_law_899 (by decide) (fun _ => ?_) (fun q => absurd rfl q)
      refine W.widen (k := 100 + 12 * (k + 1)) (n := 30000 + 600 * (k + 1)) (by omega) (by omega) ?_
      exact K S V2 M2 H w hR2 (by omega) hk3 ls hl
    rcases Decidable.em (w0 = (26 : Int32)) with c27 | c27
    · refine lv_tableIn (tgt := 904) hx hb dL_law_33 (by rw [c27]; decide) (by rw [c27]; decide) (by rw [c27]; rfl) (by decide) ?_
      obtain ⟨r, V2, M2, hfx, hfm, hR2⟩ := ops.2.2.2.2.2.2.2.2.2.2.2.2.2.2.2.2.2.2.2.2.2.2.2.2.2.2.2.1 S V Vm hR (xs (x3 + 1).toNatClampNeg)
      refine lv_aload_n hx hb dL_law_904 rfl (lv_at hl 1 rfl) ?_
      refine lv_aload_n hx hb dL_law_905 rfl (lv_at hl 0 rfl) ?_
      refine lv_iload_n hx hb dL_law_906 rfl (lv_at hl 3 rfl) ?_
      refine lv_iconst (v := 1) hx hb dL_law_907 (by decide) ?_
      refine lv_iadd hx hb dL_law_908 ?_
      refine va_sld hx hb hX hbl hbX w.wx.2 (hv 1 (by decide)) dL_law_909 ?_
      refine lx_i (m_rV (As := [.int (xs (x3 + 1).toNatClampNeg)]) (rest := []) XX w.wx hl mi_X8_sources ml_L_122 0 (shn hsh 0 rfl) (shk hsh 0 rfl : S.2.1 0 = 8) rfl (c_X8_sources l D cy (adX s.heap.size) (AX s.heap.size) (KX (AX s.heap.size) aK aV) CX N S V 0 hsh (xs (x3 + 1).toNatClampNeg) r V2 hfx) ⟨⟨rfl, rfl, Nat.le_of_ble_eq_true rfl, Nat.le_of_ble_eq_true rfl⟩, (by show _ ≤ 600000; omega), (by show _ ≤ 7302250; omega)⟩ rfl rfl (Nat.le_of_ble_eq_true rfl) dL_law_910) w (by omega) (fun H w => ?_)
      refine lv_aload_n hx hb dL_law_913 rfl (lv_at hl 2 rfl) ?_
      refine lv_aload_n hx hb dL_law_914 rfl (lv_at hl 0 rfl) ?_
      refine lv_iload_n hx hb dL_law_915 rfl (lv_at hl 3 rfl) ?_
      refine lv_iconst (v := 1) hx hb dL_law_916 (by decide) ?_
      refine lv_iadd hx hb dL_law_917 ?_
      refine va_sld hx hb hX hbl hbX w.wx.2 (hv 1 (by decide)) dL_law_918 ?_
      refine lm_i (m_rV (As := [.int (xs (x3 + 1).toNatClampNeg)]) (rest := [.int r]) XM w.wm hl mi_X9_sources ml_L_125 0 sm_n0 sm_k0 rfl (c_X9_sources l D cy (adM s.heap.size) (AM s.heap.size) (KX (AM s.heap.size) aKm aVm) CM N H.size Vm (xs (x3 + 1).toNatClampNeg) r M2 hfm) ⟨⟨rfl, rfl, Nat.le_of_ble_eq_true rfl, Nat.le_of_ble_eq_true rfl⟩, (by show _ ≤ 600000; omega), (by show _ ≤ 7302250; omega)⟩ rfl rfl (Nat.le_of_ble_eq_true rfl) dL_law_919) w (fun H w => ?_)
      refine lv_icmp_eq (tgt := 1333) hx hb dL_law_922 (by decide) (fun _ => ?_) (fun q => absurd rfl q)
      refine W.widen (k := 100 + 12 * (k + 1)) (n := 30000 + 600 * (k + 1)) (by omega) (by omega) ?_
      exact K S V2 M2 H w hR2 (by omega) hk3 ls hl
    rcases Decidable.em (w0 = (27 : Int32)) with c28 | c28
    · refine lv_tableIn (tgt := 927) hx hb dL_law_33 (by rw [c28]; decide) (by rw [c28]; decide) (by rw [c28]; rfl) (by decide) ?_
      obtain ⟨r, V2, M2, hfx, hfm, hR2⟩ := ops.2.2.2.2.2.2.2.2.2.2.2.2.2.2.2.2.2.2.2.2.2.2.2.2.2.2.2.2.1 S V Vm hR (xs (x3 + 1).toNatClampNeg)
      refine lv_aload_n hx hb dL_law_927 rfl (lv_at hl 1 rfl) ?_
      refine lv_aload_n hx hb dL_law_928 rfl (lv_at hl 0 rfl) ?_
      refine lv_iload_n hx hb dL_law_929 rfl (lv_at hl 3 rfl) ?_
      refine lv_iconst (v := 1) hx hb dL_law_930 (by decide) ?_
      refine lv_iadd hx hb dL_law_931 ?_
      refine va_sld hx hb hX hbl hbX w.wx.2 (hv 1 (by decide)) dL_law_932 ?_
      refine lx_i (m_rV (As := [.int (xs (x3 + 1).toNatClampNeg)]) (rest := []) XX w.wx hl mi_X8_casts ml_L_126 0 (shn hsh 0 rfl) (shk hsh 0 rfl : S.2.1 0 = 8) rfl (c_X8_casts l D cy (adX s.heap.size) (AX s.heap.size) (KX (AX s.heap.size) aK aV) CX N S V 0 hsh (xs (x3 + 1).toNatClampNeg) r V2 hfx) ⟨⟨rfl, rfl, Nat.le_of_ble_eq_true rfl, Nat.le_of_ble_eq_true rfl⟩, (by show _ ≤ 600000; omega), (by show _ ≤ 7302250; omega)⟩ rfl rfl (Nat.le_of_ble_eq_true rfl) dL_law_933) w (by omega) (fun H w => ?_)
      refine lv_aload_n hx hb dL_law_936 rfl (lv_at hl 2 rfl) ?_
      refine lv_aload_n hx hb dL_law_937 rfl (lv_at hl 0 rfl) ?_
      refine lv_iload_n hx hb dL_law_938 rfl (lv_at hl 3 rfl) ?_
      refine lv_iconst (v := 1) hx hb dL_law_939 (by decide) ?_
      refine lv_iadd hx hb dL_law_940 ?_
      refine va_sld hx hb hX hbl hbX w.wx.2 (hv 1 (by decide)) dL_law_941 ?_
      refine lm_i (m_rV (As := [.int (xs (x3 + 1).toNatClampNeg)]) (rest := [.int r]) XM w.wm hl mi_X9_casts ml_L_129 0 sm_n0 sm_k0 rfl (c_X9_casts l D cy (adM s.heap.size) (AM s.heap.size) (KX (AM s.heap.size) aKm aVm) CM N H.size Vm (xs (x3 + 1).toNatClampNeg) r M2 hfm) ⟨⟨rfl, rfl, Nat.le_of_ble_eq_true rfl, Nat.le_of_ble_eq_true rfl⟩, (by show _ ≤ 600000; omega), (by show _ ≤ 7302250; omega)⟩ rfl rfl (Nat.le_of_ble_eq_true rfl) dL_law_942) w (fun H w => ?_)
      refine lv_icmp_eq (tgt := 1333) hx hb dL_law_945 (by decide) (fun _ => ?_) (fun q => absurd rfl q)
      refine W.widen (k := 100 + 12 * (k + 1)) (n := 30000 + 600 * (k + 1)) (by omega) (by omega) ?_
      exact K S V2 M2 H w hR2 (by omega) hk3 ls hl
    rcases Decidable.em (w0 = (28 : Int32)) with c29 | c29
    · refine lv_tableIn (tgt := 950) hx hb dL_law_33 (by rw [c29]; decide) (by rw [c29]; decide) (by rw [c29]; rfl) (by decide) ?_
      obtain ⟨r, V2, M2, hfx, hfm, hR2⟩ := ops.2.2.2.2.2.2.2.2.2.2.2.2.2.2.2.2.2.2.2.2.2.2.2.2.2.2.2.2.2.1 S V Vm hR (xs (x3 + 1).toNatClampNeg) (xs (x3 + 2).toNatClampNeg) (xs (x3 + 3).toNatClampNeg)
      refine lv_aload_n hx hb dL_law_950 rfl (lv_at hl 1 rfl) ?_
      refine lv_aload_n hx hb dL_law_951 rfl (lv_at hl 0 rfl) ?_
      refine lv_iload_n hx hb dL_law_952 rfl (lv_at hl 3 rfl) ?_
      refine lv_iconst (v := 1) hx hb dL_law_953 (by decide) ?_
      refine lv_iadd hx hb dL_law_954 ?_
      refine va_sld hx hb hX hbl hbX w.wx.2 (hv 1 (by decide)) dL_law_955 ?_
      refine lv_aload_n hx hb dL_law_956 rfl (lv_at hl 0 rfl) ?_
      refine lv_iload_n hx hb dL_law_957 rfl (lv_at hl 3 rfl) ?_
      refine lv_iconst (v := 2) hx hb dL_law_958 (by decide) ?_
      refine lv_iadd hx hb dL_law_959 ?_
      refine va_sld hx hb hX hbl hbX w.wx.2 (hv 2 (by decide)) dL_law_960 ?_
      refine lv_aload_n hx hb dL_law_961 rfl (lv_at hl 0 rfl) ?_
      refine lv_iload_n hx hb dL_law_962 rfl (lv_at hl 3 rfl) ?_
      refine lv_iconst (v := 3) hx hb dL_law_963 (by decide) ?_
      refine lv_iadd hx hb dL_law_964 ?_
      refine va_sld hx hb hX hbl hbX w.wx.2 (hv 3 (by decide)) dL_law_965 ?_
      refine lx_i (m_rV (As := [.int (xs (x3 + 1).toNatClampNeg), .int (xs (x3 + 2).toNatClampNeg), .int (xs (x3 + 3).toNatClampNeg)]) (rest := []) XX w.wx hl mi_X8_seen ml_L_130 0 (shn hsh 0 rfl) (shk hsh 0 rfl : S.2.1 0 = 8) rfl (c_X8_seen l D cy (adX s.heap.size) (AX s.heap.size) (KX (AX s.heap.size) aK aV) CX N S V 0 hsh (xs (x3 + 1).toNatClampNeg) (xs (x3 + 2).toNatClampNeg) (xs (x3 + 3).toNatClampNeg) r V2 hfx) ⟨⟨rfl, rfl, Nat.le_of_ble_eq_true rfl, Nat.le_of_ble_eq_true rfl⟩, (by show _ ≤ 600000; omega), (by show _ ≤ 7302250; omega)⟩ rfl rfl (Nat.le_of_ble_eq_true rfl) dL_law_966) w (by omega) (fun H w => ?_)
      refine lv_aload_n hx hb dL_law_969 rfl (lv_at hl 2 rfl) ?_
      refine lv_aload_n hx hb dL_law_970 rfl (lv_at hl 0 rfl) ?_
      refine lv_iload_n hx hb dL_law_971 rfl (lv_at hl 3 rfl) ?_
      refine lv_iconst (v := 1) hx hb dL_law_972 (by decide) ?_
      refine lv_iadd hx hb dL_law_973 ?_
      refine va_sld hx hb hX hbl hbX w.wx.2 (hv 1 (by decide)) dL_law_974 ?_
      refine lv_aload_n hx hb dL_law_975 rfl (lv_at hl 0 rfl) ?_
      refine lv_iload_n hx hb dL_law_976 rfl (lv_at hl 3 rfl) ?_
      refine lv_iconst (v := 2) hx hb dL_law_977 (by decide) ?_
      refine lv_iadd hx hb dL_law_978 ?_
      refine va_sld hx hb hX hbl hbX w.wx.2 (hv 2 (by decide)) dL_law_979 ?_
      refine lv_aload_n hx hb dL_law_980 rfl (lv_at hl 0 rfl) ?_
      refine lv_iload_n hx hb dL_law_981 rfl (lv_at hl 3 rfl) ?_
      refine lv_iconst (v := 3) hx hb dL_law_982 (by decide) ?_
      refine lv_iadd hx hb dL_law_983 ?_
      refine va_sld hx hb hX hbl hbX w.wx.2 (hv 3 (by decide)) dL_law_984 ?_
      refine lm_i (m_rV (As := [.int (xs (x3 + 1).toNatClampNeg), .int (xs (x3 + 2).toNatClampNeg), .int (xs (x3 + 3).toNatClampNeg)]) (rest := [.int r]) XM w.wm hl mi_X9_seen ml_L_133 0 sm_n0 sm_k0 rfl (c_X9_seen l D cy (adM s.heap.size) (AM s.heap.size) (KX (AM s.heap.size) aKm aVm) CM N H.size Vm (xs (x3 + 1).toNatClampNeg) (xs (x3 + 2).toNatClampNeg) (xs (x3 + 3).toNatClampNeg) r M2 hfm) ⟨⟨rfl, rfl, Nat.le_of_ble_eq_true rfl, Nat.le_of_ble_eq_true rfl⟩, (by show _ ≤ 600000; omega), (by show _ ≤ 7302250; omega)⟩ rfl rfl (Nat.le_of_ble_eq_true rfl) dL_law_985) w (fun H w => ?_)
      refine lv_icmp_eq (tgt := 1333) hx hb dL_law_988 (by decide) (fun _ => ?_) (fun q => absurd rfl q)
      refine W.widen (k := 100 + 12 * (k + 1)) (n := 30000 + 600 * (k + 1)) (by omega) (by omega) ?_
      exact K S V2 M2 H w hR2 (by omega) hk3 ls hl
    rcases Decidable.em (w0 = (29 : Int32)) with c30 | c30
    · refine lv_tableIn (tgt := 993) hx hb dL_law_33 (by rw [c30]; decide) (by rw [c30]; decide) (by rw [c30]; rfl) (by decide) ?_
      obtain ⟨r, V2, M2, hfx, hfm, hR2⟩ := ops.2.2.2.2.2.2.2.2.2.2.2.2.2.2.2.2.2.2.2.2.2.2.2.2.2.2.2.2.2.2.1 S V Vm hR ()
      refine lv_aload_n hx hb dL_law_993 rfl (lv_at hl 1 rfl) ?_
      refine lx_i (m_rV (As := []) (rest := []) XX w.wx hl mi_X8_fits ml_L_134 0 (shn hsh 0 rfl) (shk hsh 0 rfl : S.2.1 0 = 8) rfl (c_X8_fits l D cy (adX s.heap.size) (AX s.heap.size) (KX (AX s.heap.size) aK aV) CX N S V 0 hsh  r V2 hfx) ⟨⟨rfl, rfl, Nat.le_of_ble_eq_true rfl, Nat.le_of_ble_eq_true rfl⟩, (by show _ ≤ 600000; omega), (by show _ ≤ 7302250; omega)⟩ rfl rfl (Nat.le_of_ble_eq_true rfl) dL_law_994) w (by omega) (fun H w => ?_)
      refine lv_aload_n hx hb dL_law_997 rfl (lv_at hl 2 rfl) ?_
      refine lm_i (m_rV (As := []) (rest := [.int r]) XM w.wm hl mi_X9_fits ml_L_137 0 sm_n0 sm_k0 rfl (c_X9_fits l D cy (adM s.heap.size) (AM s.heap.size) (KX (AM s.heap.size) aKm aVm) CM N H.size Vm  r M2 hfm) ⟨⟨rfl, rfl, Nat.le_of_ble_eq_true rfl, Nat.le_of_ble_eq_true rfl⟩, (by show _ ≤ 600000; omega), (by show _ ≤ 7302250; omega)⟩ rfl rfl (Nat.le_of_ble_eq_true rfl) dL_law_998) w (fun H w => ?_)
      refine lv_icmp_eq (tgt := 1333) hx hb dL_law_1001 (by decide) (fun _ => ?_) (fun q => absurd rfl q)
      refine W.widen (k := 100 + 12 * (k + 1)) (n := 30000 + 600 * (k + 1)) (by omega) (by omega) ?_
      exact K S V2 M2 H w hR2 (by omega) hk3 ls hl
    rcases Decidable.em (w0 = (30 : Int32)) with c31 | c31
    · refine lv_tableIn (tgt := 1006) hx hb dL_law_33 (by rw [c31]; decide) (by rw [c31]; decide) (by rw [c31]; rfl) (by decide) ?_
      obtain ⟨r, V2, M2, hfx, hfm, hR2⟩ := ops.2.2.2.2.2.2.2.2.2.2.2.2.2.2.2.2.2.2.2.2.2.2.2.2.2.2.2.2.2.2.2.1 S V Vm hR (xs (x3 + 1).toNatClampNeg) (xs (x3 + 2).toNatClampNeg)
      refine lv_aload_n hx hb dL_law_1006 rfl (lv_at hl 1 rfl) ?_
      refine lv_aload_n hx hb dL_law_1007 rfl (lv_at hl 0 rfl) ?_
      refine lv_iload_n hx hb dL_law_1008 rfl (lv_at hl 3 rfl) ?_
      refine lv_iconst (v := 1) hx hb dL_law_1009 (by decide) ?_
      refine lv_iadd hx hb dL_law_1010 ?_
      refine va_sld hx hb hX hbl hbX w.wx.2 (hv 1 (by decide)) dL_law_1011 ?_
      refine lv_aload_n hx hb dL_law_1012 rfl (lv_at hl 0 rfl) ?_
      refine lv_iload_n hx hb dL_law_1013 rfl (lv_at hl 3 rfl) ?_
      refine lv_iconst (v := 2) hx hb dL_law_1014 (by decide) ?_
      refine lv_iadd hx hb dL_law_1015 ?_
      refine va_sld hx hb hX hbl hbX w.wx.2 (hv 2 (by decide)) dL_law_1016 ?_
      refine lx_i (m_rV (As := [.int (xs (x3 + 1).toNatClampNeg), .int (xs (x3 + 2).toNatClampNeg)]) (rest := []) XX w.wx hl mi_X8_next ml_L_138 0 (shn hsh 0 rfl) (shk hsh 0 rfl : S.2.1 0 = 8) rfl (c_X8_next l D cy (adX s.heap.size) (AX s.heap.size) (KX (AX s.heap.size) aK aV) CX N S V 0 hsh (xs (x3 + 1).toNatClampNeg) (xs (x3 + 2).toNatClampNeg) r V2 hfx) ⟨⟨rfl, rfl, Nat.le_of_ble_eq_true rfl, Nat.le_of_ble_eq_true rfl⟩, (by show _ ≤ 600000; omega), (by show _ ≤ 7302250; omega)⟩ rfl rfl (Nat.le_of_ble_eq_true rfl) dL_law_1017) w (by omega) (fun H w => ?_)
      refine lv_aload_n hx hb dL_law_1020 rfl (lv_at hl 2 rfl) ?_
      refine lv_aload_n hx hb dL_law_1021 rfl (lv_at hl 0 rfl) ?_
      refine lv_iload_n hx hb dL_law_1022 rfl (lv_at hl 3 rfl) ?_
      refine lv_iconst (v := 1) hx hb dL_law_1023 (by decide) ?_
      refine lv_iadd hx hb dL_law_1024 ?_
      refine va_sld hx hb hX hbl hbX w.wx.2 (hv 1 (by decide)) dL_law_1025 ?_
      refine lv_aload_n hx hb dL_law_1026 rfl (lv_at hl 0 rfl) ?_
      refine lv_iload_n hx hb dL_law_1027 rfl (lv_at hl 3 rfl) ?_
      refine lv_iconst (v := 2) hx hb dL_law_1028 (by decide) ?_
      refine lv_iadd hx hb dL_law_1029 ?_
      refine va_sld hx hb hX hbl hbX w.wx.2 (hv 2 (by decide)) dL_law_1030 ?_
      refine lm_i (m_rV (As := [.int (xs (x3 + 1).toNatClampNeg), .int (xs (x3 + 2).toNatClampNeg)]) (rest := [.int r]) XM w.wm hl mi_X9_next ml_L_141 0 sm_n0 sm_k0 rfl (c_X9_next l D cy (adM s.heap.size) (AM s.heap.size) (KX (AM s.heap.size) aKm aVm) CM N H.size Vm (xs (x3 + 1).toNatClampNeg) (xs (x3 + 2).toNatClampNeg) r M2 hfm) ⟨⟨rfl, rfl, Nat.le_of_ble_eq_true rfl, Nat.le_of_ble_eq_true rfl⟩, (by show _ ≤ 600000; omega), (by show _ ≤ 7302250; omega)⟩ rfl rfl (Nat.le_of_ble_eq_true rfl) dL_law_1031) w (fun H w => ?_)
      refine lv_icmp_eq (tgt := 1333) hx hb dL_law_1034 (by decide) (fun _ => ?_) (fun q => absurd rfl q)
      refine W.widen (k := 100 + 12 * (k + 1)) (n := 30000 + 600 * (k + 1)) (by omega) (by omega) ?_
      exact K S V2 M2 H w hR2 (by omega) hk3 ls hl
    rcases Decidable.em (w0 = (31 : Int32)) with c32 | c32
    · refine lv_tableIn (tgt := 1039) hx hb dL_law_33 (by rw [c32]; decide) (by rw [c32]; decide) (by rw [c32]; rfl) (by decide) ?_
      obtain ⟨r, V2, M2, hfx, hfm, hR2⟩ := ops.2.2.2.2.2.2.2.2.2.2.2.2.2.2.2.2.2.2.2.2.2.2.2.2.2.2.2.2.2.2.2.2.1 S V Vm hR (xs (x3 + 1).toNatClampNeg) (xs (x3 + 2).toNatClampNeg) (xs (x3 + 3).toNatClampNeg)
      refine lv_aload_n hx hb dL_law_1039 rfl (lv_at hl 1 rfl) ?_
      refine lv_aload_n hx hb dL_law_1040 rfl (lv_at hl 0 rfl) ?_
      refine lv_iload_n hx hb dL_law_1041 rfl (lv_at hl 3 rfl) ?_
      refine lv_iconst (v := 1) hx hb dL_law_1042 (by decide) ?_
      refine lv_iadd hx hb dL_law_1043 ?_
      refine va_sld hx hb hX hbl hbX w.wx.2 (hv 1 (by decide)) dL_law_1044 ?_
      refine lv_aload_n hx hb dL_law_1045 rfl (lv_at hl 0 rfl) ?_
      refine lv_iload_n hx hb dL_law_1046 rfl (lv_at hl 3 rfl) ?_
      refine lv_iconst (v := 2) hx hb dL_law_1047 (by decide) ?_
      refine lv_iadd hx hb dL_law_1048 ?_
      refine va_sld hx hb hX hbl hbX w.wx.2 (hv 2 (by decide)) dL_law_1049 ?_
      refine lv_aload_n hx hb dL_law_1050 rfl (lv_at hl 0 rfl) ?_
      refine lv_iload_n hx hb dL_law_1051 rfl (lv_at hl 3 rfl) ?_
      refine lv_iconst (v := 3) hx hb dL_law_1052 (by decide) ?_
      refine lv_iadd hx hb dL_law_1053 ?_
      refine va_sld hx hb hX hbl hbX w.wx.2 (hv 3 (by decide)) dL_law_1054 ?_
      refine lx_i (m_rV (As := [.int (xs (x3 + 1).toNatClampNeg), .int (xs (x3 + 2).toNatClampNeg), .int (xs (x3 + 3).toNatClampNeg)]) (rest := []) XX w.wx hl mi_X8_booked ml_L_142 0 (shn hsh 0 rfl) (shk hsh 0 rfl : S.2.1 0 = 8) rfl (c_X8_booked l D cy (adX s.heap.size) (AX s.heap.size) (KX (AX s.heap.size) aK aV) CX N S V 0 hsh (xs (x3 + 1).toNatClampNeg) (xs (x3 + 2).toNatClampNeg) (xs (x3 + 3).toNatClampNeg) r V2 hfx) ⟨⟨rfl, rfl, Nat.le_of_ble_eq_true rfl, Nat.le_of_ble_eq_true rfl⟩, (by show _ ≤ 600000; omega), (by show _ ≤ 7302250; omega)⟩ rfl rfl (Nat.le_of_ble_eq_true rfl) dL_law_1055) w (by omega) (fun H w => ?_)
      refine lv_aload_n hx hb dL_law_1058 rfl (lv_at hl 2 rfl) ?_
      refine lv_aload_n hx hb dL_law_1059 rfl (lv_at hl 0 rfl) ?_
      refine lv_iload_n hx hb dL_law_1060 rfl (lv_at hl 3 rfl) ?_
      refine lv_iconst (v := 1) hx hb dL_law_1061 (by decide) ?_
      refine lv_iadd hx hb dL_law_1062 ?_
      refine va_sld hx hb hX hbl hbX w.wx.2 (hv 1 (by decide)) dL_law_1063 ?_
      refine lv_aload_n hx hb dL_law_1064 rfl (lv_at hl 0 rfl) ?_
      refine lv_iload_n hx hb dL_law_1065 rfl (lv_at hl 3 rfl) ?_
      refine lv_iconst (v := 2) hx hb dL_law_1066 (by decide) ?_
      refine lv_iadd hx hb dL_law_1067 ?_
      refine va_sld hx hb hX hbl hbX w.wx.2 (hv 2 (by decide)) dL_law_1068 ?_
      refine lv_aload_n hx hb dL_law_1069 rfl (lv_at hl 0 rfl) ?_
      refine lv_iload_n hx hb dL_law_1070 rfl (lv_at hl 3 rfl) ?_
      refine lv_iconst (v := 3) hx hb dL_law_1071 (by decide) ?_
      refine lv_iadd hx hb dL_law_1072 ?_
      refine va_sld hx hb hX hbl hbX w.wx.2 (hv 3 (by decide)) dL_law_1073 ?_
      refine lm_i (m_rV (As := [.int (xs (x3 + 1).toNatClampNeg), .int (xs (x3 + 2).toNatClampNeg), .int (xs (x3 + 3).toNatClampNeg)]) (rest := [.int r]) XM w.wm hl mi_X9_booked ml_L_145 0 sm_n0 sm_k0 rfl (c_X9_booked l D cy (adM s.heap.size) (AM s.heap.size) (KX (AM s.heap.size) aKm aVm) CM N H.size Vm (xs (x3 + 1).toNatClampNeg) (xs (x3 + 2).toNatClampNeg) (xs (x3 + 3).toNatClampNeg) r M2 hfm) ⟨⟨rfl, rfl, Nat.le_of_ble_eq_true rfl, Nat.le_of_ble_eq_true rfl⟩, (by show _ ≤ 600000; omega), (by show _ ≤ 7302250; omega)⟩ rfl rfl (Nat.le_of_ble_eq_true rfl) dL_law_1074) w (fun H w => ?_)
      refine lv_icmp_eq (tgt := 1333) hx hb dL_law_1077 (by decide) (fun _ => ?_) (fun q => absurd rfl q)
      refine W.widen (k := 100 + 12 * (k + 1)) (n := 30000 + 600 * (k + 1)) (by omega) (by omega) ?_
      exact K S V2 M2 H w hR2 (by omega) hk3 ls hl
    rcases Decidable.em (w0 = (32 : Int32)) with c33 | c33
    · refine lv_tableIn (tgt := 1082) hx hb dL_law_33 (by rw [c33]; decide) (by rw [c33]; decide) (by rw [c33]; rfl) (by decide) ?_
      obtain ⟨r, hfx, hfm, hR2⟩ := ops.2.2.2.2.2.2.2.2.2.2.2.2.2.2.2.2.2.2.2.2.2.2.2.2.2.2.2.2.2.2.2.2.2.1 S V Vm hR (xs (x3 + 1).toNatClampNeg) (xs (x3 + 2).toNatClampNeg) (xs (x3 + 3).toNatClampNeg)
      refine lv_aload_n hx hb dL_law_1082 rfl (lv_at hl 1 rfl) ?_
      refine lv_aload_n hx hb dL_law_1083 rfl (lv_at hl 0 rfl) ?_
      refine lv_iload_n hx hb dL_law_1084 rfl (lv_at hl 3 rfl) ?_
      refine lv_iconst (v := 1) hx hb dL_law_1085 (by decide) ?_
      refine lv_iadd hx hb dL_law_1086 ?_
      refine va_sld hx hb hX hbl hbX w.wx.2 (hv 1 (by decide)) dL_law_1087 ?_
      refine lv_aload_n hx hb dL_law_1088 rfl (lv_at hl 0 rfl) ?_
      refine lv_iload_n hx hb dL_law_1089 rfl (lv_at hl 3 rfl) ?_
      refine lv_iconst (v := 2) hx hb dL_law_1090 (by decide) ?_
      refine lv_iadd hx hb dL_law_1091 ?_
      refine va_sld hx hb hX hbl hbX w.wx.2 (hv 2 (by decide)) dL_law_1092 ?_
      refine lv_aload_n hx hb dL_law_1093 rfl (lv_at hl 0 rfl) ?_
      refine lv_iload_n hx hb dL_law_1094 rfl (lv_at hl 3 rfl) ?_
      refine lv_iconst (v := 3) hx hb dL_law_1095 (by decide) ?_
      refine lv_iadd hx hb dL_law_1096 ?_
      refine va_sld hx hb hX hbl hbX w.wx.2 (hv 3 (by decide)) dL_law_1097 ?_
      refine lx_i (m_rV (As := [.int (xs (x3 + 1).toNatClampNeg), .int (xs (x3 + 2).toNatClampNeg), .int (xs (x3 + 3).toNatClampNeg)]) (rest := []) XX w.wx hl mi_X8_through ml_L_146 0 (shn hsh 0 rfl) (shk hsh 0 rfl : S.2.1 0 = 8) rfl (c_X8_through l D cy (adX s.heap.size) (AX s.heap.size) (KX (AX s.heap.size) aK aV) CX N S V 0 hsh (xs (x3 + 1).toNatClampNeg) (xs (x3 + 2).toNatClampNeg) (xs (x3 + 3).toNatClampNeg) r hfx) ⟨⟨rfl, rfl, Nat.le_of_ble_eq_true rfl, Nat.le_of_ble_eq_true rfl⟩, (by show _ ≤ 600000; omega), (by show _ ≤ 7302250; omega)⟩ rfl rfl (Nat.le_of_ble_eq_true rfl) dL_law_1098) w (by omega) (fun H w => ?_)
      refine lv_aload_n hx hb dL_law_1101 rfl (lv_at hl 2 rfl) ?_
      refine lv_aload_n hx hb dL_law_1102 rfl (lv_at hl 0 rfl) ?_
      refine lv_iload_n hx hb dL_law_1103 rfl (lv_at hl 3 rfl) ?_
      refine lv_iconst (v := 1) hx hb dL_law_1104 (by decide) ?_
      refine lv_iadd hx hb dL_law_1105 ?_
      refine va_sld hx hb hX hbl hbX w.wx.2 (hv 1 (by decide)) dL_law_1106 ?_
      refine lv_aload_n hx hb dL_law_1107 rfl (lv_at hl 0 rfl) ?_
      refine lv_iload_n hx hb dL_law_1108 rfl (lv_at hl 3 rfl) ?_
      refine lv_iconst (v := 2) hx hb dL_law_1109 (by decide) ?_
      refine lv_iadd hx hb dL_law_1110 ?_
      refine va_sld hx hb hX hbl hbX w.wx.2 (hv 2 (by decide)) dL_law_1111 ?_
      refine lv_aload_n hx hb dL_law_1112 rfl (lv_at hl 0 rfl) ?_
      refine lv_iload_n hx hb dL_law_1113 rfl (lv_at hl 3 rfl) ?_
      refine lv_iconst (v := 3) hx hb dL_law_1114 (by decide) ?_
      refine lv_iadd hx hb dL_law_1115 ?_
      refine va_sld hx hb hX hbl hbX w.wx.2 (hv 3 (by decide)) dL_law_1116 ?_
      refine lm_i (m_rV (As := [.int (xs (x3 + 1).toNatClampNeg), .int (xs (x3 + 2).toNatClampNeg), .int (xs (x3 + 3).toNatClampNeg)]) (rest := [.int r]) XM w.wm hl mi_X9_through ml_L_149 0 sm_n0 sm_k0 rfl (c_X9_through l D cy (adM s.heap.size) (AM s.heap.size) (KX (AM s.heap.size) aKm aVm) CM N H.size Vm (xs (x3 + 1).toNatClampNeg) (xs (x3 + 2).toNatClampNeg) (xs (x3 + 3).toNatClampNeg) r hfm) ⟨⟨rfl, rfl, Nat.le_of_ble_eq_true rfl, Nat.le_of_ble_eq_true rfl⟩, (by show _ ≤ 600000; omega), (by show _ ≤ 7302250; omega)⟩ rfl rfl (Nat.le_of_ble_eq_true rfl) dL_law_1117) w (fun H w => ?_)
      refine lv_icmp_eq (tgt := 1333) hx hb dL_law_1120 (by decide) (fun _ => ?_) (fun q => absurd rfl q)
      refine W.widen (k := 100 + 12 * (k + 1)) (n := 30000 + 600 * (k + 1)) (by omega) (by omega) ?_
      exact K S V Vm H w hR2 (by omega) hk3 ls hl
    rcases Decidable.em (w0 = (33 : Int32)) with c34 | c34
    · refine lv_tableIn (tgt := 1125) hx hb dL_law_33 (by rw [c34]; decide) (by rw [c34]; decide) (by rw [c34]; rfl) (by decide) ?_
      obtain ⟨r, V2, M2, hfx, hfm, hR2⟩ := ops.2.2.2.2.2.2.2.2.2.2.2.2.2.2.2.2.2.2.2.2.2.2.2.2.2.2.2.2.2.2.2.2.2.2.1 S V Vm hR ()
      refine lv_aload_n hx hb dL_law_1125 rfl (lv_at hl 1 rfl) ?_
      refine lx_i (m_rV (As := []) (rest := []) XX w.wx hl mi_X8_settled ml_L_150 0 (shn hsh 0 rfl) (shk hsh 0 rfl : S.2.1 0 = 8) rfl (c_X8_settled l D cy (adX s.heap.size) (AX s.heap.size) (KX (AX s.heap.size) aK aV) CX N S V 0 hsh  r V2 hfx) ⟨⟨rfl, rfl, Nat.le_of_ble_eq_true rfl, Nat.le_of_ble_eq_true rfl⟩, (by show _ ≤ 600000; omega), (by show _ ≤ 7302250; omega)⟩ rfl rfl (Nat.le_of_ble_eq_true rfl) dL_law_1126) w (by omega) (fun H w => ?_)
      refine lv_aload_n hx hb dL_law_1129 rfl (lv_at hl 2 rfl) ?_
      refine lm_i (m_rV (As := []) (rest := [.int r]) XM w.wm hl mi_X9_settled ml_L_153 0 sm_n0 sm_k0 rfl (c_X9_settled l D cy (adM s.heap.size) (AM s.heap.size) (KX (AM s.heap.size) aKm aVm) CM N H.size Vm  r M2 hfm) ⟨⟨rfl, rfl, Nat.le_of_ble_eq_true rfl, Nat.le_of_ble_eq_true rfl⟩, (by show _ ≤ 600000; omega), (by show _ ≤ 7302250; omega)⟩ rfl rfl (Nat.le_of_ble_eq_true rfl) dL_law_1130) w (fun H w => ?_)
      refine lv_icmp_eq (tgt := 1333) hx hb dL_law_1133 (by decide) (fun _ => ?_) (fun q => absurd rfl q)
      refine W.widen (k := 100 + 12 * (k + 1)) (n := 30000 + 600 * (k + 1)) (by omega) (by omega) ?_
      exact K S V2 M2 H w hR2 (by omega) hk3 ls hl
    rcases Decidable.em (w0 = (34 : Int32)) with c35 | c35
    · refine lv_tableIn (tgt := 1138) hx hb dL_law_33 (by rw [c35]; decide) (by rw [c35]; decide) (by rw [c35]; rfl) (by decide) ?_
      obtain ⟨r, V2, M2, hfx, hfm, hR2⟩ := ops.2.2.2.2.2.2.2.2.2.2.2.2.2.2.2.2.2.2.2.2.2.2.2.2.2.2.2.2.2.2.2.2.2.2.2.1 S V Vm hR ()
      refine lv_aload_n hx hb dL_law_1138 rfl (lv_at hl 1 rfl) ?_
      refine lx_i (m_rV (As := []) (rest := []) XX w.wx hl mi_X8_forget ml_L_154 0 (shn hsh 0 rfl) (shk hsh 0 rfl : S.2.1 0 = 8) rfl (c_X8_forget l D cy (adX s.heap.size) (AX s.heap.size) (KX (AX s.heap.size) aK aV) CX N S V 0 hsh  r V2 hfx) ⟨⟨rfl, rfl, Nat.le_of_ble_eq_true rfl, Nat.le_of_ble_eq_true rfl⟩, (by show _ ≤ 600000; omega), (by show _ ≤ 7302250; omega)⟩ rfl rfl (Nat.le_of_ble_eq_true rfl) dL_law_1139) w (by omega) (fun H w => ?_)
      refine lv_aload_n hx hb dL_law_1142 rfl (lv_at hl 2 rfl) ?_
      refine lm_i (m_rV (As := []) (rest := [.int r]) XM w.wm hl mi_X9_forget ml_L_157 0 sm_n0 sm_k0 rfl (c_X9_forget l D cy (adM s.heap.size) (AM s.heap.size) (KX (AM s.heap.size) aKm aVm) CM N H.size Vm  r M2 hfm) ⟨⟨rfl, rfl, Nat.le_of_ble_eq_true rfl, Nat.le_of_ble_eq_true rfl⟩, (by show _ ≤ 600000; omega), (by show _ ≤ 7302250; omega)⟩ rfl rfl (Nat.le_of_ble_eq_true rfl) dL_law_1143) w (fun H w => ?_)
      refine lv_icmp_eq (tgt := 1333) hx hb dL_law_1146 (by decide) (fun _ => ?_) (fun q => absurd rfl q)
      refine W.widen (k := 100 + 12 * (k + 1)) (n := 30000 + 600 * (k + 1)) (by omega) (by omega) ?_
      exact K S V2 M2 H w hR2 (by omega) hk3 ls hl
    rcases Decidable.em (w0 = (35 : Int32)) with c36 | c36
    · refine lv_tableIn (tgt := 1151) hx hb dL_law_33 (by rw [c36]; decide) (by rw [c36]; decide) (by rw [c36]; rfl) (by decide) ?_
      obtain ⟨r, V2, M2, hfx, hfm, hR2⟩ := ops.2.2.2.2.2.2.2.2.2.2.2.2.2.2.2.2.2.2.2.2.2.2.2.2.2.2.2.2.2.2.2.2.2.2.2.2.1 S V Vm hR (xs (x3 + 1).toNatClampNeg) (xs (x3 + 2).toNatClampNeg)
      refine lv_aload_n hx hb dL_law_1151 rfl (lv_at hl 1 rfl) ?_
      refine lv_aload_n hx hb dL_law_1152 rfl (lv_at hl 0 rfl) ?_
      refine lv_iload_n hx hb dL_law_1153 rfl (lv_at hl 3 rfl) ?_
      refine lv_iconst (v := 1) hx hb dL_law_1154 (by decide) ?_
      refine lv_iadd hx hb dL_law_1155 ?_
      refine va_sld hx hb hX hbl hbX w.wx.2 (hv 1 (by decide)) dL_law_1156 ?_
      refine lv_aload_n hx hb dL_law_1157 rfl (lv_at hl 0 rfl) ?_
      refine lv_iload_n hx hb dL_law_1158 rfl (lv_at hl 3 rfl) ?_
      refine lv_iconst (v := 2) hx hb dL_law_1159 (by decide) ?_
      refine lv_iadd hx hb dL_law_1160 ?_
      refine va_sld hx hb hX hbl hbX w.wx.2 (hv 2 (by decide)) dL_law_1161 ?_
      refine lx_l (m_rV (As := [.int (xs (x3 + 1).toNatClampNeg), .int (xs (x3 + 2).toNatClampNeg)]) (rest := []) XX w.wx hl mi_X8_few ml_L_158 0 (shn hsh 0 rfl) (shk hsh 0 rfl : S.2.1 0 = 8) rfl (c_X8_few l D cy (adX s.heap.size) (AX s.heap.size) (KX (AX s.heap.size) aK aV) CX N S V 0 hsh (xs (x3 + 1).toNatClampNeg) (xs (x3 + 2).toNatClampNeg) r V2 hfx) ⟨⟨rfl, rfl, Nat.le_of_ble_eq_true rfl, Nat.le_of_ble_eq_true rfl⟩, (by show _ ≤ 600000; omega), (by show _ ≤ 7302250; omega)⟩ rfl rfl (Nat.le_of_ble_eq_true rfl) dL_law_1162) w (by omega) (fun H w => ?_)
      refine lv_aload_n hx hb dL_law_1165 rfl (lv_at hl 2 rfl) ?_
      refine lv_aload_n hx hb dL_law_1166 rfl (lv_at hl 0 rfl) ?_
      refine lv_iload_n hx hb dL_law_1167 rfl (lv_at hl 3 rfl) ?_
      refine lv_iconst (v := 1) hx hb dL_law_1168 (by decide) ?_
      refine lv_iadd hx hb dL_law_1169 ?_
      refine va_sld hx hb hX hbl hbX w.wx.2 (hv 1 (by decide)) dL_law_1170 ?_
      refine lv_aload_n hx hb dL_law_1171 rfl (lv_at hl 0 rfl) ?_
      refine lv_iload_n hx hb dL_law_1172 rfl (lv_at hl 3 rfl) ?_
      refine lv_iconst (v := 2) hx hb dL_law_1173 (by decide) ?_
      refine lv_iadd hx hb dL_law_1174 ?_
      refine va_sld hx hb hX hbl hbX w.wx.2 (hv 2 (by decide)) dL_law_1175 ?_
      refine lm_l (m_rV (As := [.int (xs (x3 + 1).toNatClampNeg), .int (xs (x3 + 2).toNatClampNeg)]) (rest := [.long r]) XM w.wm hl mi_X9_few ml_L_162 0 sm_n0 sm_k0 rfl (c_X9_few l D cy (adM s.heap.size) (AM s.heap.size) (KX (AM s.heap.size) aKm aVm) CM N H.size Vm (xs (x3 + 1).toNatClampNeg) (xs (x3 + 2).toNatClampNeg) r M2 hfm) ⟨⟨rfl, rfl, Nat.le_of_ble_eq_true rfl, Nat.le_of_ble_eq_true rfl⟩, (by show _ ≤ 600000; omega), (by show _ ≤ 7302250; omega)⟩ rfl rfl (Nat.le_of_ble_eq_true rfl) dL_law_1176) w (fun H w => ?_)
      refine W.lcmp hx hb dL_law_1179 ?_
      refine lv_if_eq (tgt := 1333) hx hb dL_law_1180 (by decide) (fun _ => ?_) (fun q => absurd (by simp [lg_cmp]) q)
      refine W.widen (k := 100 + 12 * (k + 1)) (n := 30000 + 600 * (k + 1)) (by omega) (by omega) ?_
      exact K S V2 M2 H w hR2 (by omega) hk3 ls hl
    rcases Decidable.em (w0 = (36 : Int32)) with c37 | c37
    · refine lv_tableIn (tgt := 1185) hx hb dL_law_33 (by rw [c37]; decide) (by rw [c37]; decide) (by rw [c37]; rfl) (by decide) ?_
      obtain ⟨r, V2, M2, hfx, hfm, hR2⟩ := ops.2.2.2.2.2.2.2.2.2.2.2.2.2.2.2.2.2.2.2.2.2.2.2.2.2.2.2.2.2.2.2.2.2.2.2.2.2.1 S V Vm hR (xs (x3 + 1).toNatClampNeg) (xs (x3 + 2).toNatClampNeg)
      refine lv_aload_n hx hb dL_law_1185 rfl (lv_at hl 1 rfl) ?_
      refine lv_aload_n hx hb dL_law_1186 rfl (lv_at hl 0 rfl) ?_
      refine lv_iload_n hx hb dL_law_1187 rfl (lv_at hl 3 rfl) ?_
      refine lv_iconst (v := 1) hx hb dL_law_1188 (by decide) ?_
      refine lv_iadd hx hb dL_law_1189 ?_
      refine va_sld hx hb hX hbl hbX w.wx.2 (hv 1 (by decide)) dL_law_1190 ?_
      refine lv_aload_n hx hb dL_law_1191 rfl (lv_at hl 0 rfl) ?_
      refine lv_iload_n hx hb dL_law_1192 rfl (lv_at hl 3 rfl) ?_
      refine lv_iconst (v := 2) hx hb dL_law_1193 (by decide) ?_
      refine lv_iadd hx hb dL_law_1194 ?_
      refine va_sld hx hb hX hbl hbX w.wx.2 (hv 2 (by decide)) dL_law_1195 ?_
      refine lx_i (m_rV (As := [.int (xs (x3 + 1).toNatClampNeg), .int (xs (x3 + 2).toNatClampNeg)]) (rest := []) XX w.wx hl mi_X8_weeks ml_L_163 0 (shn hsh 0 rfl) (shk hsh 0 rfl : S.2.1 0 = 8) rfl (c_X8_weeks l D cy (adX s.heap.size) (AX s.heap.size) (KX (AX s.heap.size) aK aV) CX N S V 0 hsh (xs (x3 + 1).toNatClampNeg) (xs (x3 + 2).toNatClampNeg) r V2 hfx) ⟨⟨rfl, rfl, Nat.le_of_ble_eq_true rfl, Nat.le_of_ble_eq_true rfl⟩, (by show _ ≤ 600000; omega), (by show _ ≤ 7302250; omega)⟩ rfl rfl (Nat.le_of_ble_eq_true rfl) dL_law_1196) w (by omega) (fun H w => ?_)
      refine lv_aload_n hx hb dL_law_1199 rfl (lv_at hl 2 rfl) ?_
      refine lv_aload_n hx hb dL_law_1200 rfl (lv_at hl 0 rfl) ?_
      refine lv_iload_n hx hb dL_law_1201 rfl (lv_at hl 3 rfl) ?_
      refine lv_iconst (v := 1) hx hb dL_law_1202 (by decide) ?_
      refine lv_iadd hx hb dL_law_1203 ?_
      refine va_sld hx hb hX hbl hbX w.wx.2 (hv 1 (by decide)) dL_law_1204 ?_
      refine lv_aload_n hx hb dL_law_1205 rfl (lv_at hl 0 rfl) ?_
      refine lv_iload_n hx hb dL_law_1206 rfl (lv_at hl 3 rfl) ?_
      refine lv_iconst (v := 2) hx hb dL_law_1207 (by decide) ?_
      refine lv_iadd hx hb dL_law_1208 ?_
      refine va_sld hx hb hX hbl hbX w.wx.2 (hv 2 (by decide)) dL_law_1209 ?_
      refine lm_i (m_rV (As := [.int (xs (x3 + 1).toNatClampNeg), .int (xs (x3 + 2).toNatClampNeg)]) (rest := [.int r]) XM w.wm hl mi_X9_weeks ml_L_166 0 sm_n0 sm_k0 rfl (c_X9_weeks l D cy (adM s.heap.size) (AM s.heap.size) (KX (AM s.heap.size) aKm aVm) CM N H.size Vm (xs (x3 + 1).toNatClampNeg) (xs (x3 + 2).toNatClampNeg) r M2 hfm) ⟨⟨rfl, rfl, Nat.le_of_ble_eq_true rfl, Nat.le_of_ble_eq_true rfl⟩, (by show _ ≤ 600000; omega), (by show _ ≤ 7302250; omega)⟩ rfl rfl (Nat.le_of_ble_eq_true rfl) dL_law_1210) w (fun H w => ?_)
      refine lv_icmp_eq (tgt := 1333) hx hb dL_law_1213 (by decide) (fun _ => ?_) (fun q => absurd rfl q)
      refine W.widen (k := 100 + 12 * (k + 1)) (n := 30000 + 600 * (k + 1)) (by omega) (by omega) ?_
      exact K S V2 M2 H w hR2 (by omega) hk3 ls hl
    rcases Decidable.em (w0 = (37 : Int32)) with c38 | c38
    · refine lv_tableIn (tgt := 1218) hx hb dL_law_33 (by rw [c38]; decide) (by rw [c38]; decide) (by rw [c38]; rfl) (by decide) ?_
      obtain ⟨r, hfx, hfm, hR2⟩ := ops.2.2.2.2.2.2.2.2.2.2.2.2.2.2.2.2.2.2.2.2.2.2.2.2.2.2.2.2.2.2.2.2.2.2.2.2.2.2.1 S V Vm hR (xs (x3 + 1).toNatClampNeg) (xs (x3 + 2).toNatClampNeg)
      refine lv_aload_n hx hb dL_law_1218 rfl (lv_at hl 1 rfl) ?_
      refine lv_aload_n hx hb dL_law_1219 rfl (lv_at hl 0 rfl) ?_
      refine lv_iload_n hx hb dL_law_1220 rfl (lv_at hl 3 rfl) ?_
      refine lv_iconst (v := 1) hx hb dL_law_1221 (by decide) ?_
      refine lv_iadd hx hb dL_law_1222 ?_
      refine va_sld hx hb hX hbl hbX w.wx.2 (hv 1 (by decide)) dL_law_1223 ?_
      refine lv_aload_n hx hb dL_law_1224 rfl (lv_at hl 0 rfl) ?_
      refine lv_iload_n hx hb dL_law_1225 rfl (lv_at hl 3 rfl) ?_
      refine lv_iconst (v := 2) hx hb dL_law_1226 (by decide) ?_
      refine lv_iadd hx hb dL_law_1227 ?_
      refine va_sld hx hb hX hbl hbX w.wx.2 (hv 2 (by decide)) dL_law_1228 ?_
      refine lx_i (m_rV (As := [.int (xs (x3 + 1).toNatClampNeg), .int (xs (x3 + 2).toNatClampNeg)]) (rest := []) XX w.wx hl mi_X8_drawn ml_L_167 0 (shn hsh 0 rfl) (shk hsh 0 rfl : S.2.1 0 = 8) rfl (c_X8_drawn l D cy (adX s.heap.size) (AX s.heap.size) (KX (AX s.heap.size) aK aV) CX N S V 0 hsh (xs (x3 + 1).toNatClampNeg) (xs (x3 + 2).toNatClampNeg) r hfx) ⟨⟨rfl, rfl, Nat.le_of_ble_eq_true rfl, Nat.le_of_ble_eq_true rfl⟩, (by show _ ≤ 600000; omega), (by show _ ≤ 7302250; omega)⟩ rfl rfl (Nat.le_of_ble_eq_true rfl) dL_law_1229) w (by omega) (fun H w => ?_)
      refine lv_aload_n hx hb dL_law_1232 rfl (lv_at hl 2 rfl) ?_
      refine lv_aload_n hx hb dL_law_1233 rfl (lv_at hl 0 rfl) ?_
      refine lv_iload_n hx hb dL_law_1234 rfl (lv_at hl 3 rfl) ?_
      refine lv_iconst (v := 1) hx hb dL_law_1235 (by decide) ?_
      refine lv_iadd hx hb dL_law_1236 ?_
      refine va_sld hx hb hX hbl hbX w.wx.2 (hv 1 (by decide)) dL_law_1237 ?_
      refine lv_aload_n hx hb dL_law_1238 rfl (lv_at hl 0 rfl) ?_
      refine lv_iload_n hx hb dL_law_1239 rfl (lv_at hl 3 rfl) ?_
      refine lv_iconst (v := 2) hx hb dL_law_1240 (by decide) ?_
      refine lv_iadd hx hb dL_law_1241 ?_
      refine va_sld hx hb hX hbl hbX w.wx.2 (hv 2 (by decide)) dL_law_1242 ?_
      refine lm_i (m_rV (As := [.int (xs (x3 + 1).toNatClampNeg), .int (xs (x3 + 2).toNatClampNeg)]) (rest := [.int r]) XM w.wm hl mi_X9_drawn ml_L_170 0 sm_n0 sm_k0 rfl (c_X9_drawn l D cy (adM s.heap.size) (AM s.heap.size) (KX (AM s.heap.size) aKm aVm) CM N H.size Vm (xs (x3 + 1).toNatClampNeg) (xs (x3 + 2).toNatClampNeg) r hfm) ⟨⟨rfl, rfl, Nat.le_of_ble_eq_true rfl, Nat.le_of_ble_eq_true rfl⟩, (by show _ ≤ 600000; omega), (by show _ ≤ 7302250; omega)⟩ rfl rfl (Nat.le_of_ble_eq_true rfl) dL_law_1243) w (fun H w => ?_)
      refine lv_icmp_eq (tgt := 1333) hx hb dL_law_1246 (by decide) (fun _ => ?_) (fun q => absurd rfl q)
      refine W.widen (k := 100 + 12 * (k + 1)) (n := 30000 + 600 * (k + 1)) (by omega) (by omega) ?_
      exact K S V Vm H w hR2 (by omega) hk3 ls hl
    rcases Decidable.em (w0 = (38 : Int32)) with c39 | c39
    · refine lv_tableIn (tgt := 1251) hx hb dL_law_33 (by rw [c39]; decide) (by rw [c39]; decide) (by rw [c39]; rfl) (by decide) ?_
      obtain ⟨r, S2, V2, M2, hfx, hfm, hR2, hS2⟩ := ops.2.2.2.2.2.2.2.2.2.2.2.2.2.2.2.2.2.2.2.2.2.2.2.2.2.2.2.2.2.2.2.2.2.2.2.2.2.2.2.1 S V Vm hR (xs (x3 + 1).toNatClampNeg)
      refine lv_aload_n hx hb dL_law_1251 rfl (lv_at hl 1 rfl) ?_
      refine lv_aload_n hx hb dL_law_1252 rfl (lv_at hl 0 rfl) ?_
      refine lv_iload_n hx hb dL_law_1253 rfl (lv_at hl 3 rfl) ?_
      refine lv_iconst (v := 1) hx hb dL_law_1254 (by decide) ?_
      refine lv_iadd hx hb dL_law_1255 ?_
      refine va_sld hx hb hX hbl hbX w.wx.2 (hv 1 (by decide)) dL_law_1256 ?_
      refine lx_i (m_rV (As := [.int (xs (x3 + 1).toNatClampNeg)]) (rest := []) XX w.wx hl mi_X8_image ml_L_171 0 (shn hsh 0 rfl) (shk hsh 0 rfl : S.2.1 0 = 8) rfl (c_X8_image l D cy (adX s.heap.size) (AX s.heap.size) aK aV CX N S V 0 hsh (xs (x3 + 1).toNatClampNeg) r S2 V2 hfx) ⟨⟨rfl, rfl, Nat.le_of_ble_eq_true rfl, Nat.le_of_ble_eq_true rfl⟩, (by show _ ≤ 600000; omega), (by show _ ≤ 7302250; omega)⟩ rfl rfl (Nat.le_of_ble_eq_true rfl) dL_law_1257) w (by omega) (fun H w => ?_)
      refine lv_aload_n hx hb dL_law_1260 rfl (lv_at hl 2 rfl) ?_
      refine lv_aload_n hx hb dL_law_1261 rfl (lv_at hl 0 rfl) ?_
      refine lv_iload_n hx hb dL_law_1262 rfl (lv_at hl 3 rfl) ?_
      refine lv_iconst (v := 1) hx hb dL_law_1263 (by decide) ?_
      refine lv_iadd hx hb dL_law_1264 ?_
      refine va_sld hx hb hX hbl hbX w.wx.2 (hv 1 (by decide)) dL_law_1265 ?_
      refine lm_i (m_rV (As := [.int (xs (x3 + 1).toNatClampNeg)]) (rest := [.int r]) XM w.wm hl mi_X9_image ml_L_174 0 sm_n0 sm_k0 rfl (c_X9_image l D cy (adM s.heap.size) (AM s.heap.size) (KX (AM s.heap.size) aKm aVm) CM N H.size Vm (xs (x3 + 1).toNatClampNeg) r M2 hfm) ⟨⟨rfl, rfl, Nat.le_of_ble_eq_true rfl, Nat.le_of_ble_eq_true rfl⟩, (by show _ ≤ 600000; omega), (by show _ ≤ 7302250; omega)⟩ rfl rfl (Nat.le_of_ble_eq_true rfl) dL_law_1266) w (fun H w => ?_)
      refine lv_icmp_eq (tgt := 1333) hx hb dL_law_1269 (by decide) (fun _ => ?_) (fun q => absurd rfl q)
      refine W.widen (k := 100 + 12 * (k + 1)) (n := 30000 + 600 * (k + 1)) (by omega) (by omega) ?_
      exact K S2 V2 M2 H w hR2 (by omega) hk3 ls hl
    rcases Decidable.em (w0 = (39 : Int32)) with c40 | c40
    · refine lv_tableIn (tgt := 1274) hx hb dL_law_33 (by rw [c40]; decide) (by rw [c40]; decide) (by rw [c40]; rfl) (by decide) ?_
      obtain ⟨r, V2, M2, hfx, hfm, hR2⟩ := ops.2.2.2.2.2.2.2.2.2.2.2.2.2.2.2.2.2.2.2.2.2.2.2.2.2.2.2.2.2.2.2.2.2.2.2.2.2.2.2.2.1 S V Vm hR (xs (x3 + 1).toNatClampNeg)
      refine lv_aload_n hx hb dL_law_1274 rfl (lv_at hl 1 rfl) ?_
      refine lv_aload_n hx hb dL_law_1275 rfl (lv_at hl 0 rfl) ?_
      refine lv_iload_n hx hb dL_law_1276 rfl (lv_at hl 3 rfl) ?_
      refine lv_iconst (v := 1) hx hb dL_law_1277 (by decide) ?_
      refine lv_iadd hx hb dL_law_1278 ?_
      refine va_sld hx hb hX hbl hbX w.wx.2 (hv 1 (by decide)) dL_law_1279 ?_
      refine lx_i (m_rV (As := [.int (xs (x3 + 1).toNatClampNeg)]) (rest := []) XX w.wx hl mi_X8_back ml_L_175 0 (shn hsh 0 rfl) (shk hsh 0 rfl : S.2.1 0 = 8) rfl (c_X8_back l D cy (adX s.heap.size) (AX s.heap.size) (KX (AX s.heap.size) aK aV) CX N S V 0 hsh (xs (x3 + 1).toNatClampNeg) r V2 hfx) ⟨⟨rfl, rfl, Nat.le_of_ble_eq_true rfl, Nat.le_of_ble_eq_true rfl⟩, (by show _ ≤ 600000; omega), (by show _ ≤ 7302250; omega)⟩ rfl rfl (Nat.le_of_ble_eq_true rfl) dL_law_1280) w (by omega) (fun H w => ?_)
      refine lv_aload_n hx hb dL_law_1283 rfl (lv_at hl 2 rfl) ?_
      refine lv_aload_n hx hb dL_law_1284 rfl (lv_at hl 0 rfl) ?_
      refine lv_iload_n hx hb dL_law_1285 rfl (lv_at hl 3 rfl) ?_
      refine lv_iconst (v := 1) hx hb dL_law_1286 (by decide) ?_
      refine lv_iadd hx hb dL_law_1287 ?_
      refine va_sld hx hb hX hbl hbX w.wx.2 (hv 1 (by decide)) dL_law_1288 ?_
      refine lm_i (m_rV (As := [.int (xs (x3 + 1).toNatClampNeg)]) (rest := [.int r]) XM w.wm hl mi_X9_back ml_L_178 0 sm_n0 sm_k0 rfl (c_X9_back l D cy (adM s.heap.size) (AM s.heap.size) (KX (AM s.heap.size) aKm aVm) CM N H.size Vm (xs (x3 + 1).toNatClampNeg) r M2 hfm) ⟨⟨rfl, rfl, Nat.le_of_ble_eq_true rfl, Nat.le_of_ble_eq_true rfl⟩, (by show _ ≤ 600000; omega), (by show _ ≤ 7302250; omega)⟩ rfl rfl (Nat.le_of_ble_eq_true rfl) dL_law_1289) w (fun H w => ?_)
      refine lv_icmp_eq (tgt := 1333) hx hb dL_law_1292 (by decide) (fun _ => ?_) (fun q => absurd rfl q)
      refine W.widen (k := 100 + 12 * (k + 1)) (n := 30000 + 600 * (k + 1)) (by omega) (by omega) ?_
      exact K S V2 M2 H w hR2 (by omega) hk3 ls hl
    rcases Decidable.em (w0 = (40 : Int32)) with c41 | c41
    · refine lv_tableIn (tgt := 1297) hx hb dL_law_33 (by rw [c41]; decide) (by rw [c41]; decide) (by rw [c41]; rfl) (by decide) ?_
      obtain ⟨r, hfx, hfm, hR2⟩ := ops.2.2.2.2.2.2.2.2.2.2.2.2.2.2.2.2.2.2.2.2.2.2.2.2.2.2.2.2.2.2.2.2.2.2.2.2.2.2.2.2.2.1 S V Vm hR (xs (x3 + 1).toNatClampNeg)
      refine lv_aload_n hx hb dL_law_1297 rfl (lv_at hl 1 rfl) ?_
      refine lv_aload_n hx hb dL_law_1298 rfl (lv_at hl 0 rfl) ?_
      refine lv_iload_n hx hb dL_law_1299 rfl (lv_at hl 3 rfl) ?_
      refine lv_iconst (v := 1) hx hb dL_law_1300 (by decide) ?_
      refine lv_iadd hx hb dL_law_1301 ?_
      refine va_sld hx hb hX hbl hbX w.wx.2 (hv 1 (by decide)) dL_law_1302 ?_
      refine lx_i (m_rV (As := [.int (xs (x3 + 1).toNatClampNeg)]) (rest := []) XX w.wx hl mi_X8_count ml_L_179 0 (shn hsh 0 rfl) (shk hsh 0 rfl : S.2.1 0 = 8) rfl (c_X8_count l D cy (adX s.heap.size) (AX s.heap.size) (KX (AX s.heap.size) aK aV) CX N S V 0 hsh (xs (x3 + 1).toNatClampNeg) r hfx) ⟨⟨rfl, rfl, Nat.le_of_ble_eq_true rfl, Nat.le_of_ble_eq_true rfl⟩, (by show _ ≤ 600000; omega), (by show _ ≤ 7302250; omega)⟩ rfl rfl (Nat.le_of_ble_eq_true rfl) dL_law_1303) w (by omega) (fun H w => ?_)
      refine lv_aload_n hx hb dL_law_1306 rfl (lv_at hl 2 rfl) ?_
      refine lv_aload_n hx hb dL_law_1307 rfl (lv_at hl 0 rfl) ?_
      refine lv_iload_n hx hb dL_law_1308 rfl (lv_at hl 3 rfl) ?_
      refine lv_iconst (v := 1) hx hb dL_law_1309 (by decide) ?_
      refine lv_iadd hx hb dL_law_1310 ?_
      refine va_sld hx hb hX hbl hbX w.wx.2 (hv 1 (by decide)) dL_law_1311 ?_
      refine lm_i (m_rV (As := [.int (xs (x3 + 1).toNatClampNeg)]) (rest := [.int r]) XM w.wm hl mi_X9_count ml_L_182 0 sm_n0 sm_k0 rfl (c_X9_count l D cy (adM s.heap.size) (AM s.heap.size) (KX (AM s.heap.size) aKm aVm) CM N H.size Vm (xs (x3 + 1).toNatClampNeg) r hfm) ⟨⟨rfl, rfl, Nat.le_of_ble_eq_true rfl, Nat.le_of_ble_eq_true rfl⟩, (by show _ ≤ 600000; omega), (by show _ ≤ 7302250; omega)⟩ rfl rfl (Nat.le_of_ble_eq_true rfl) dL_law_1312) w (fun H w => ?_)
      refine lv_icmp_eq (tgt := 1333) hx hb dL_law_1315 (by decide) (fun _ => ?_) (fun q => absurd rfl q)
      refine W.widen (k := 100 + 12 * (k + 1)) (n := 30000 + 600 * (k + 1)) (by omega) (by omega) ?_
      exact K S V Vm H w hR2 (by omega) hk3 ls hl
    rcases Decidable.em (w0 = (41 : Int32)) with c42 | c42
    · refine lv_tableIn (tgt := 1320) hx hb dL_law_33 (by rw [c42]; decide) (by rw [c42]; decide) (by rw [c42]; rfl) (by decide) ?_
      obtain ⟨r, hfx, hfm, hR2⟩ := ops.2.2.2.2.2.2.2.2.2.2.2.2.2.2.2.2.2.2.2.2.2.2.2.2.2.2.2.2.2.2.2.2.2.2.2.2.2.2.2.2.2.2 S V Vm hR ()
      refine lv_aload_n hx hb dL_law_1320 rfl (lv_at hl 1 rfl) ?_
      refine lx_i (m_rV (As := []) (rest := []) XX w.wx hl mi_X8_status ml_L_183 0 (shn hsh 0 rfl) (shk hsh 0 rfl : S.2.1 0 = 8) rfl (c_X8_status l D cy (adX s.heap.size) (AX s.heap.size) (KX (AX s.heap.size) aK aV) CX N S V 0 hsh  r hfx) ⟨⟨rfl, rfl, Nat.le_of_ble_eq_true rfl, Nat.le_of_ble_eq_true rfl⟩, (by show _ ≤ 600000; omega), (by show _ ≤ 7302250; omega)⟩ rfl rfl (Nat.le_of_ble_eq_true rfl) dL_law_1321) w (by omega) (fun H w => ?_)
      refine lv_aload_n hx hb dL_law_1324 rfl (lv_at hl 2 rfl) ?_
      refine lm_i (m_rV (As := []) (rest := [.int r]) XM w.wm hl mi_X9_status ml_L_186 0 sm_n0 sm_k0 rfl (c_X9_status l D cy (adM s.heap.size) (AM s.heap.size) (KX (AM s.heap.size) aKm aVm) CM N H.size Vm  r hfm) ⟨⟨rfl, rfl, Nat.le_of_ble_eq_true rfl, Nat.le_of_ble_eq_true rfl⟩, (by show _ ≤ 600000; omega), (by show _ ≤ 7302250; omega)⟩ rfl rfl (Nat.le_of_ble_eq_true rfl) dL_law_1325) w (fun H w => ?_)
      refine lv_icmp_eq (tgt := 1333) hx hb dL_law_1328 (by decide) (fun _ => ?_) (fun q => absurd rfl q)
      refine W.widen (k := 100 + 12 * (k + 1)) (n := 30000 + 600 * (k + 1)) (by omega) (by omega) ?_
      exact K S V Vm H w hR2 (by omega) hk3 ls hl
    refine lv_tableOut (tgt := 1333) hx hb dL_law_33 (sw_out [(0 : Int32), (1 : Int32), (2 : Int32), (3 : Int32), (4 : Int32), (5 : Int32), (6 : Int32), (7 : Int32), (8 : Int32), (9 : Int32), (10 : Int32), (11 : Int32), (12 : Int32), (13 : Int32), (14 : Int32), (15 : Int32), (16 : Int32), (17 : Int32), (18 : Int32), (19 : Int32), (20 : Int32), (21 : Int32), (22 : Int32), (23 : Int32), (24 : Int32), (25 : Int32), (26 : Int32), (27 : Int32), (28 : Int32), (29 : Int32), (30 : Int32), (31 : Int32), (32 : Int32), (33 : Int32), (34 : Int32), (35 : Int32), (36 : Int32), (37 : Int32), (38 : Int32), (39 : Int32), (40 : Int32), (41 : Int32)] (by decide) (by intro q hq; simp only [List.mem_cons, List.not_mem_nil, or_false] at hq; rcases hq with rfl | rfl | rfl | rfl | rfl | rfl | rfl | rfl | rfl | rfl | rfl | rfl | rfl | rfl | rfl | rfl | rfl | rfl | rfl | rfl | rfl | rfl | rfl | rfl | rfl | rfl | rfl | rfl | rfl | rfl | rfl | rfl | rfl | rfl | rfl | rfl | rfl | rfl | rfl | rfl | rfl | rfl <;> assumption)) (by decide) ?_
    refine W.widen (k := 100 + 12 * (k + 1)) (n := 30000 + 600 * (k + 1)) (by omega) (by omega) ?_
    exact K S V Vm H w hR (by omega) hk3 ls hl
