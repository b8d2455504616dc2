section
/-! all calls, with lengths of cells not yet made -/
variable {N b0 : Nat}
theorem oz_enter (hN : 20000 ≤ N) : Op_enter N b0 (RelZ b0) := fun S V M h a1 a2 => by
  obtain ⟨r, V2, M2, e1, e2, h2⟩ := op_enter S V M h.1 a1 a2
  exact ⟨r, V2, M2, e1, e2, h2, h.2⟩
theorem oz_at (hN : 20000 ≤ N) : Op_at N b0 (RelZ b0) := fun S V M h a1 a2 => by
  obtain ⟨r, V2, M2, e1, e2, h2⟩ := op_at hN S V M h.1 a1 a2
  exact ⟨r, V2, M2, e1, e2, h2, h.2⟩
theorem oz_told (hN : 20000 ≤ N) : Op_told N b0 (RelZ b0) := fun S V M h a1 a2 a3 => by
  obtain ⟨r, V2, M2, e1, e2, h2⟩ := op_told S V M h.1 a1 a2 a3
  exact ⟨r, V2, M2, e1, e2, h2, h.2⟩
theorem oz_off (hN : 20000 ≤ N) : Op_off N b0 (RelZ b0) := fun S V M h a1 a2 => by
  obtain ⟨r, e1, e2, h2⟩ := op_off hN S V M h.1 a1 a2
  exact ⟨r, e1, e2, h2, h.2⟩
theorem oz_clerk (hN : 20000 ≤ N) : Op_clerk N b0 (RelZ b0) := fun S V M h a1 => by
  obtain ⟨r, V2, M2, e1, e2, h2⟩ := op_clerk S V M h.1 a1
  exact ⟨r, V2, M2, e1, e2, h2, h.2⟩
theorem oz_of (hN : 20000 ≤ N) : Op_of N b0 (RelZ b0) := fun S V M h a1 a2 => by
  obtain ⟨r, e1, e2, h2⟩ := op_of S V M h.1 a1 a2
  exact ⟨r, e1, e2, h2, h.2⟩
theorem oz_asks (hN : 20000 ≤ N) : Op_asks N b0 (RelZ b0) := fun S V M h a1 a2 a3 => by
  obtain ⟨r, V2, M2, e1, e2, h2⟩ := op_asks hN S V M h.1 a1 a2 a3
  exact ⟨r, V2, M2, e1, e2, h2, h.2⟩
theorem oz_terms (hN : 20000 ≤ N) : Op_terms N b0 (RelZ b0) := fun S V M h a1 a2 => by
  obtain ⟨r, V2, M2, e1, e2, h2⟩ := op_terms S V M h.1 a1 a2
  exact ⟨r, V2, M2, e1, e2, h2, h.2⟩
theorem oz_feed (hN : 20000 ≤ N) : Op_feed N b0 (RelZ b0) := fun S V M h a1 a2 a3 a4 a5 => by
  obtain ⟨r, V2, M2, e1, e2, h2⟩ := op_feed hN S V M h.1 a1 a2 a3 a4 a5
  exact ⟨r, V2, M2, e1, e2, h2, h.2⟩
theorem oz_end (hN : 20000 ≤ N) : Op_end N b0 (RelZ b0) := fun S V M h a1 => by
  obtain ⟨r, V2, M2, e1, e2, h2⟩ := op_end S V M h.1 a1
  exact ⟨r, V2, M2, e1, e2, h2, h.2⟩
theorem oz_row (hN : 20000 ≤ N) : Op_row N b0 (RelZ b0) := fun S V M h u => by
  obtain ⟨r, V2, M2, e1, e2, h2⟩ := op_row hN S V M h.1 u
  exact ⟨r, V2, M2, e1, e2, h2, h.2⟩
theorem oz_smudges (hN : 20000 ≤ N) : Op_smudges N b0 (RelZ b0) := fun S V M h u => by
  obtain ⟨r, e1, e2, h2⟩ := op_smudges S V M h.1 u
  exact ⟨r, e1, e2, h2, h.2⟩
theorem oz_fault (hN : 20000 ≤ N) : Op_fault N b0 (RelZ b0) := fun S V M h u => by
  obtain ⟨r, e1, e2, h2⟩ := op_fault S V M h.1 u
  exact ⟨r, e1, e2, h2, h.2⟩
theorem oz_stopped (hN : 20000 ≤ N) : Op_stopped N b0 (RelZ b0) := fun S V M h u => by
  obtain ⟨r, e1, e2, h2⟩ := op_stopped S V M h.1 u
  exact ⟨r, e1, e2, h2, h.2⟩
theorem oz_force (hN : 20000 ≤ N) : Op_force N b0 (RelZ b0) := fun S V M h a1 => by
  obtain ⟨r, V2, M2, e1, e2, h2⟩ := op_force S V M h.1 a1
  exact ⟨r, V2, M2, e1, e2, h2, h.2⟩
theorem oz_take (hN : 20000 ≤ N) : Op_take N b0 (RelZ b0) := fun S V M h a1 a2 => by
  obtain ⟨r, V2, M2, e1, e2, h2⟩ := op_take hN S V M h.1 a1 a2
  exact ⟨r, V2, M2, e1, e2, h2, h.2⟩
theorem oz_shift (hN : 20000 ≤ N) : Op_shift N b0 (RelZ b0) := fun S V M h a1 a2 a3 => by
  obtain ⟨r, V2, M2, e1, e2, h2⟩ := op_shift hN S V M h.1 a1 a2 a3
  exact ⟨r, V2, M2, e1, e2, h2, h.2⟩
theorem oz_fence (hN : 20000 ≤ N) : Op_fence N b0 (RelZ b0) := fun S V M h a1 => by
  obtain ⟨r, V2, M2, e1, e2, h2⟩ := op_fence hN S V M h.1 a1
  exact ⟨r, V2, M2, e1, e2, h2, h.2⟩
theorem oz_pass (hN : 20000 ≤ N) : Op_pass N b0 (RelZ b0) := fun S V M h u => by
  obtain ⟨r, V2, M2, e1, e2, h2⟩ := op_pass hN S V M h.1 u
  exact ⟨r, V2, M2, e1, e2, h2, h.2⟩
theorem oz_undo (hN : 20000 ≤ N) : Op_undo N b0 (RelZ b0) := fun S V M h u => by
  obtain ⟨r, V2, M2, e1, e2, h2⟩ := op_undo hN S V M h.1 u
  exact ⟨r, V2, M2, e1, e2, h2, h.2⟩
theorem oz_fewest (hN : 20000 ≤ N) : Op_fewest N b0 (RelZ b0) := fun S V M h u => by
  obtain ⟨r, V2, M2, e1, e2, h2⟩ := op_fewest hN S V M h.1 u
  exact ⟨r, V2, M2, e1, e2, h2, h.2⟩
theorem oz_turned (hN : 20000 ≤ N) : Op_turned N b0 (RelZ b0) := fun S V M h a1 => by
  obtain ⟨r, V2, M2, e1, e2, h2⟩ := op_turned hN S V M h.1 a1
  exact ⟨r, V2, M2, e1, e2, h2, h.2⟩
theorem oz_hound (hN : 20000 ≤ N) : Op_hound N b0 (RelZ b0) := fun S V M h a1 a2 => by
  obtain ⟨r, V2, M2, e1, e2, h2⟩ := op_hound hN S V M h.1 a1 a2
  exact ⟨r, V2, M2, e1, e2, h2, h.2⟩
theorem oz_ring (hN : 20000 ≤ N) : Op_ring N b0 (RelZ b0) := fun S V M h a1 a2 => by
  obtain ⟨r, V2, M2, e1, e2, h2⟩ := op_ring hN S V M h.1 a1 a2
  exact ⟨r, V2, M2, e1, e2, h2, h.2⟩
theorem oz_sources (hN : 20000 ≤ N) : Op_sources N b0 (RelZ b0) := fun S V M h a1 => by
  obtain ⟨r, V2, M2, e1, e2, h2⟩ := op_sources hN S V M h.1 a1
  exact ⟨r, V2, M2, e1, e2, h2, h.2⟩
theorem oz_casts (hN : 20000 ≤ N) : Op_casts N b0 (RelZ b0) := fun S V M h a1 => by
  obtain ⟨r, V2, M2, e1, e2, h2⟩ := op_casts hN S V M h.1 a1
  exact ⟨r, V2, M2, e1, e2, h2, h.2⟩
theorem oz_seen (hN : 20000 ≤ N) : Op_seen N b0 (RelZ b0) := fun S V M h a1 a2 a3 => by
  obtain ⟨r, V2, M2, e1, e2, h2⟩ := op_seen S V M h.1 a1 a2 a3
  exact ⟨r, V2, M2, e1, e2, h2, h.2⟩
theorem oz_fits (hN : 20000 ≤ N) : Op_fits N b0 (RelZ b0) := fun S V M h u => by
  obtain ⟨r, V2, M2, e1, e2, h2⟩ := op_fits hN S V M h.1 u
  exact ⟨r, V2, M2, e1, e2, h2, h.2⟩
theorem oz_next (hN : 20000 ≤ N) : Op_next N b0 (RelZ b0) := fun S V M h a1 a2 => by
  obtain ⟨r, V2, M2, e1, e2, h2⟩ := op_next hN S V M h.1 a1 a2
  exact ⟨r, V2, M2, e1, e2, h2, h.2⟩
theorem oz_booked (hN : 20000 ≤ N) : Op_booked N b0 (RelZ b0) := fun S V M h a1 a2 a3 => by
  obtain ⟨r, V2, M2, e1, e2, h2⟩ := op_booked S V M h.1 a1 a2 a3
  exact ⟨r, V2, M2, e1, e2, h2, h.2⟩
theorem oz_through (hN : 20000 ≤ N) : Op_through N b0 (RelZ b0) := fun S V M h a1 a2 a3 => by
  obtain ⟨r, e1, e2, h2⟩ := op_through hN S V M h.1 a1 a2 a3
  exact ⟨r, e1, e2, h2, h.2⟩
theorem oz_settled (hN : 20000 ≤ N) : Op_settled N b0 (RelZ b0) := fun S V M h u => by
  obtain ⟨r, V2, M2, e1, e2, h2⟩ := op_settled hN S V M h.1 u
  exact ⟨r, V2, M2, e1, e2, h2, h.2⟩
theorem oz_forget (hN : 20000 ≤ N) : Op_forget N b0 (RelZ b0) := fun S V M h u => by
  obtain ⟨r, V2, M2, e1, e2, h2⟩ := op_forget S V M h.1 u
  exact ⟨r, V2, M2, e1, e2, h2, h.2⟩
theorem oz_few (hN : 20000 ≤ N) : Op_few N b0 (RelZ b0) := fun S V M h a1 a2 => by
  obtain ⟨r, V2, M2, e1, e2, h2⟩ := op_few hN S V M h.1 a1 a2
  exact ⟨r, V2, M2, e1, e2, h2, h.2⟩
theorem oz_weeks (hN : 20000 ≤ N) : Op_weeks N b0 (RelZ b0) := fun S V M h a1 a2 => by
  obtain ⟨r, V2, M2, e1, e2, h2⟩ := op_weeks hN S V M h.1 a1 a2
  exact ⟨r, V2, M2, e1, e2, h2, h.2⟩
theorem oz_drawn (hN : 20000 ≤ N) : Op_drawn N b0 (RelZ b0) := fun S V M h a1 a2 => by
  obtain ⟨r, e1, e2, h2⟩ := op_drawn S V M h.1 a1 a2
  exact ⟨r, e1, e2, h2, h.2⟩
theorem oz_back (hN : 20000 ≤ N) : Op_back N b0 (RelZ b0) := fun S V M h a1 => by
  obtain ⟨r, V2, M2, e1, e2, h2⟩ := op_back hN S V M h.1 a1
  exact ⟨r, V2, M2, e1, e2, h2, h.2⟩
theorem oz_count (hN : 20000 ≤ N) : Op_count N b0 (RelZ b0) := fun S V M h a1 => by
  obtain ⟨r, e1, e2, h2⟩ := op_count hN S V M h.1 a1
  exact ⟨r, e1, e2, h2, h.2⟩
theorem oz_status (hN : 20000 ≤ N) : Op_status N b0 (RelZ b0) := fun S V M h u => by
  obtain ⟨r, e1, e2, h2⟩ := op_status S V M h.1 u
  exact ⟨r, e1, e2, h2, h.2⟩
theorem ops_ok (hN : 20000 ≤ N) : Ops N b0 (RelZ b0) := ⟨fun S V M h => h.1.1.1, oz_enter hN, oz_at hN, oz_told hN, oz_off hN, oz_clerk hN, oz_of hN, oz_asks hN, oz_terms hN, oz_feed hN, oz_end hN, oz_row hN, oz_smudges hN, op_law hN, op_orders hN, oz_fault hN, oz_stopped hN, oz_force hN, oz_take hN, oz_shift hN, oz_fence hN, oz_pass hN, oz_undo hN, oz_fewest hN, oz_turned hN, oz_hound hN, oz_ring hN, oz_sources hN, oz_casts hN, oz_seen hN, oz_fits hN, oz_next hN, oz_booked hN, oz_through hN, oz_settled hN, oz_forget hN, oz_few hN, oz_weeks hN, oz_drawn hN, op_image hN, oz_back hN, oz_count hN, oz_status hN⟩
end
