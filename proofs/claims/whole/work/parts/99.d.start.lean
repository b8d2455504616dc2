section
/-! a new object by both -/
set_option maxRecDepth 100000 in
theorem sX_0 : (∀ i, i < 25 → VsX.2.1 2 i = 0) ∧ (∀ i, i < 25 → VsX.2.1 3 i = 0) ∧ (∀ i, i < 10 → VsX.2.1 4 i = 0) ∧ (∀ i, i < 5 → VsX.2.1 5 i = 0) ∧ (∀ i, i < 5 → VsX.2.1 6 i = 0) ∧ (VsX.2.1 7 0 = 0 ∧ VsX.2.1 7 1 = 1 ∧ VsX.2.1 7 2 = 0) ∧ (∀ i, i < 24 → VsX.2.1 9 i = 0) ∧ (∀ i, i < 30 → VsX.2.1 10 i = 0) := by decide +kernel
set_option maxRecDepth 100000 in
theorem sX_1 : VsX.1 1 9 = 0 ∧ VsX.1 1 10 = 0 ∧ VsX.1 1 11 = -1 ∧ VsX.1 1 12 = 0 ∧ VsX.1 1 13 = 0 ∧ (∀ i, i < 6 → VsX.2.2.2 8 i = 0) ∧ VsX.2.2.2 11 0 = 0 ∧ VsX.2.2.2 11 1 = 0 ∧ VsX.1 32 1 = 0 ∧ VsX.1 0 15 = 0 ∧ VsX.1 0 16 = 0 ∧ VsX.1 0 17 = -1 ∧ VsX.1 0 18 = 0 ∧ (∀ i, i < 5 → VsX.2.1 63 i = 0) ∧ VsX.1 22 9 = 0 ∧ VsX.1 37 8 = -1 ∧ VsX.2.1 59 0 = 0 ∧ VsX.2.1 60 0 = 0 := by decide +kernel
set_option maxRecDepth 100000 in
theorem sM_0 : (∀ i, i < 101 → VsM.2.1 2 i = 0) ∧ VsM.2.1 2 101 = 1 ∧ VsM.2.1 2 102 = 0 ∧ VsM.2.1 2 103 = 0 ∧ VsM.2.1 2 104 = 0 ∧ VsM.2.1 2 105 = 0 ∧ VsM.2.1 2 106 = 0 ∧ VsM.2.1 2 107 = -1 := by decide +kernel
set_option maxRecDepth 100000 in
theorem sM_1 : VsM.2.1 4 0 = 0 ∧ VsM.2.1 4 1 = 0 ∧ VsM.1 0 31 = 0 ∧ VsM.1 0 13 = 0 ∧ VsM.1 0 6 = 0 ∧ VsM.1 0 40 = -1 ∧ VsM.1 0 0 = 0 ∧ (∀ i, i < 7 → VsM.2.1 1 i = 0) ∧ VsM.1 0 48 = -1 ∧ VsM.1 0 14 = -1 := by decide +kernel
set_option maxRecDepth 100000 in
theorem sM_w : ∀ i, i < 144 → VsM.2.1 6 i = wdL.getD i 0 := by decide +kernel
set_option maxRecDepth 100000 in
theorem sX_s : shpB TsX 0 t8 = true := by decide +kernel
set_option maxRecDepth 100000 in
theorem sX_n : TsX.1 = 64 := by decide +kernel
set_option maxRecDepth 100000 in
theorem sM_s : TsM.1 = 25 ∧ (∀ h, h < 25 → TsM.2.1 h = (SM 0).2.1 h ∧ TsM.2.2.1 h = (SM 0).2.2.1 h) ∧ ∀ i, i < 50 → TsM.2.2.2.1 0 i = (SM 0).2.2.2.1 0 i := by decide +kernel
theorem sM_p : ∀ i, 50 ≤ i → (SM 0).2.2.2.1 0 i = 0 := fun i hi => by
  show (if 0 = 0 then pMt.getD i 0 else 0) = 0
  rw [if_pos rfl]
  have : pMt.length ≤ i := Nat.le_trans (show pMt.length ≤ 50 by decide) hi
  simp [List.getD, List.getElem?_eq_none this]
theorem start_ok (N b0 : Nat) : Start N b0 (RelZ b0) := by
  obtain ⟨x2, x3, x4, x5, x6, ⟨x70, x71, x72⟩, x9, x10⟩ := sX_0
  obtain ⟨v9, v10, v11, v12, v13, r8, r110, r111, v32, v15, v16, v17, v18, v63, v22, v37, v59, v60⟩ := sX_1
  obtain ⟨k0, k101, k102, k103, k104, k105, k106, k107⟩ := sM_0
  obtain ⟨h0, h1, m31, m13, m6, m40, m0, m1, m48, m14⟩ := sM_1
  obtain ⟨t25, tk, tp⟩ := sM_s
  have z : ∀ {x : Int32} {m : Nat}, x = 0 → rg x m := fun h => ⟨0, Nat.zero_le _, h⟩
  refine ⟨setZ TsX (b0 + 64), VsX, setZ TsM (b0 + 64 + 25), VsM, iX N b0, sX_n, rfl, iM N b0, t25, fun h hh => ⟨(tk h hh).1, (tk h hh).2, ?_⟩, rfl, ⟨⟨fun i x hx => shp_of sX_s i x hx, ?_, ?_⟩, ?_, ?_, ?_, ?_, ?_, ?_, ?_, ?_, ?_, ?_⟩, fun g hg => ?_⟩
  · funext i
    show TsM.2.2.2.1 h i = (SM 0).2.2.2.1 h i
    by_cases c : h = 0
    · subst c
      rcases Nat.lt_or_ge i 50 with q | q
      · exact tp i q
      · rw [sM_p i q]; exact QTsM.1 i q
    · rw [QTsM.2 h i c]
      show 0 = (if h = 0 then pMt.getD i 0 else 0)
      rw [if_neg c]
  · show b0 + 89 = adX b0 TsX.1
    rw [sX_n]
    unfold adX
    rw [if_neg (by omega)]
  · show 64 ≤ TsX.1
    rw [sX_n]; exact Nat.le_refl _
  · refine ⟨fun i hi => ⟨by rw [x2 i hi, k0 i (by omega)], z (k0 i (by omega))⟩, ⟨0, by omega, k0 30 (by omega), fun i hi => by rw [x3 i hi, Nat.zero_div]; rfl⟩, fun i hi => ⟨by rw [x4 i hi, k0 _ (by omega)], z (k0 _ (by omega))⟩, fun i hi => ⟨by rw [x5 i hi, k0 _ (by omega)], z (k0 _ (by omega))⟩, fun i hi => ⟨by rw [x6 i hi, k0 _ (by omega)], z (k0 _ (by omega))⟩, ⟨⟨by rw [x70, k0 _ (by omega)], z (k0 _ (by omega))⟩, ⟨by rw [x71, k101], 1, by omega, k101⟩, by rw [x72, k102], z k102⟩, ⟨fun i hi => by rw [x9 i hi, k0 _ (by omega)], by rw [v12, k104], 0, by omega, k104, fun i hi => absurd hi (Nat.not_lt_zero i)⟩, ⟨fun i hi => by rw [x10 i hi, k0 _ (by omega)], by rw [v13, k105], 0, by omega, k105, fun i hi => absurd hi (Nat.not_lt_zero i)⟩, by rw [v9, k103], z k103⟩
  · exact ⟨by rw [v10, k106], by rw [v11, k107], 0, by omega, k106, Or.inl k107, fun i hi => Or.inl (r8 i hi), fun i hi => absurd hi (Nat.not_lt_zero i)⟩
  · exact ⟨Or.inl ⟨r110, h0⟩, Or.inl ⟨r111, h1⟩, fun p r e => by rw [r110] at e; cases e⟩
  · rw [v32, m31]; exact Dd_0 _ _ _
  · rw [v15, m13]; exact Tp_0 _ _
  · exact ⟨by rw [v18, m0], by rw [v63 0 (by omega), m1 1 (by omega)], by rw [v63 1 (by omega), m1 2 (by omega)], by rw [v63 2 (by omega), m1 3 (by omega)], by rw [v63 3 (by omega), m1 5 (by omega)], by rw [v63 4 (by omega), m1 6 (by omega)]⟩
  · exact Or.inl ⟨v22, m48⟩
  · exact ⟨by rw [v16, m6], by rw [v17, m40], by rw [v37, m14]⟩
  · exact sM_w
  · exact ⟨v59, v60⟩
  · have hg' : TsX.1 ≤ g := hg
    rw [sX_n] at hg'
    exact LTsX g hg'
theorem pure_ok (b0 : Nat) : ∃ (N : Nat) (Rel : St → Vt → Vt → Prop), Ops N b0 Rel ∧ Start N b0 Rel := ⟨20000, RelZ b0, ops_ok (Nat.le_refl _), start_ok 20000 b0⟩
end
