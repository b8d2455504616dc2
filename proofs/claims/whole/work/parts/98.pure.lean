theorem pure_ok (b0 : Nat) : ∃ (N : Nat) (Rel : St → Vt → Vt → Prop), Ops N b0 Rel ∧ Start N b0 Rel := sorry
