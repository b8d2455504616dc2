/-! The constructors, reckoned out -/
theorem nwA_n (S : St) (k n : Nat) : (nwA S k n).1 = S.1 + 1 := rfl
theorem nwA_z (S : St) (k n : Nat) : (nwA S k n).2.2.2.2 = S.2.2.2.2 + 1 := rfl
theorem nwA_k (S : St) (k n o : Nat) : (nwA S k n).2.1 o = if o = S.1 then k else S.2.1 o := rfl
theorem nwA_l (S : St) (k n o : Nat) : (nwA S k n).2.2.1 o = if o = S.1 then n else S.2.2.1 o := rfl
theorem nwA_p (S : St) (k n o j : Nat) : (nwA S k n).2.2.2.1 o j = S.2.2.2.1 o j := rfl
theorem nwO_n (S : St) (k : Nat) : (nwO S k).1 = S.1 + 1 := rfl
theorem nwO_z (S : St) (k : Nat) : (nwO S k).2.2.2.2 = S.2.2.2.2 + 1 := rfl
theorem nwO_k (S : St) (k o : Nat) : (nwO S k).2.1 o = if o = S.1 then k else S.2.1 o := rfl
theorem nwO_l (S : St) (k o : Nat) : (nwO S k).2.2.1 o = S.2.2.1 o := rfl
theorem nwO_p (S : St) (k o j : Nat) : (nwO S k).2.2.2.1 o j = if o = S.1 then 0 else S.2.2.2.1 o j := by
  show va_up S.2.2.2.1 S.1 (fun _ => 0) o j = _
  unfold va_up
  split <;> rfl
theorem stP_n (S : St) (h i q : Nat) : (stP S h i q).1 = S.1 := rfl
theorem stP_z (S : St) (h i q : Nat) : (stP S h i q).2.2.2.2 = S.2.2.2.2 := rfl
theorem stP_k (S : St) (h i q o : Nat) : (stP S h i q).2.1 o = S.2.1 o := rfl
theorem stP_l (S : St) (h i q o : Nat) : (stP S h i q).2.2.1 o = S.2.2.1 o := rfl
theorem stP_p (S : St) (h i q o j : Nat) : (stP S h i q).2.2.2.1 o j = if o = h ∧ j = i then q else S.2.2.2.1 o j := rfl
theorem St0_n (z : Nat) : (St0 z).1 = 0 := rfl
theorem St0_z (z : Nat) : (St0 z).2.2.2.2 = z := rfl
theorem cgT {α : Type} {b : Bool} {k : Option α} (h : b = true) : cg b k = k := by rw [cg, if_pos h]
theorem ooT {S : St} {o ci : Nat} (h1 : o < S.1) (h2 : S.2.1 o = ci) : ooB S o ci = true := by
  simp only [ooB, Bool.and_eq_true, beq_iff_eq]
  exact ⟨Nat.ble_eq_true_of_le h1, h2⟩
set_option maxHeartbeats 4000000 in
set_option maxRecDepth 100000 in
theorem e_X1_init (N : Nat) (ad : Nat → Nat) (S : St) (V : Vt) (o : Nat) (h1 : S.1 = o + 1) (h2 : S.2.1 o = 1) (h3 : ad S.1 = S.2.2.2.2) : f_X1_init N ad S V o = some (stP (nwA S 11 80) o 0 (o + 2), zV V (o + 1)) := by
  unfold f_X1_init
  simp only [bd]
  rw [cgT (by simp [h3]), cgT (ooT (by rw [nwA_n, h1]; omega) (by rw [nwA_k, if_neg (by omega), h2])), h1]
