section
/-! heaps: sets as bits -/
def Sub' (h s : Nat) : Prop := ∀ i, h.testBit i = true → s.testBit i = true
theorem sb_and {h s : Nat} (a : Sub' h s) : h &&& s = h := by
  apply Nat.eq_of_testBit_eq
  intro i
  rw [Nat.testBit_and]
  cases q : h.testBit i with
  | true => rw [a i q]; rfl
  | false => rfl
theorem sb_of {h s : Nat} (a : h &&& s = h) : Sub' h s := fun i hi => by
  rw [← a, Nat.testBit_and, Bool.and_eq_true] at hi
  exact hi.2
theorem sb_le {h s : Nat} (a : Sub' h s) : h ≤ s := by
  rw [← sb_and a]; exact Nat.and_le_right
theorem sb_r (s : Nat) : Sub' s s := fun _ h => h
theorem sb_0 (s : Nat) : Sub' 0 s := fun i h => by rw [Nat.zero_testBit] at h; cases h
theorem sb_t {a b c : Nat} (h1 : Sub' a b) (h2 : Sub' b c) : Sub' a c := fun i h => h2 i (h1 i h)
theorem sb_x {h s : Nat} (a : Sub' h s) : Sub' (s ^^^ h) s := fun i hi => by
  rw [Nat.testBit_xor] at hi
  cases q : s.testBit i with
  | true => rfl
  | false =>
    rw [q] at hi
    cases r : h.testBit i with
    | true => rw [a i r] at q; cases q
    | false => rw [r] at hi; cases hi
theorem xx (s h : Nat) : s ^^^ h ^^^ h = s := by rw [Nat.xor_assoc, Nat.xor_self, Nat.xor_zero]
theorem xs (s h : Nat) : s ^^^ (s ^^^ h) = h := by rw [← Nat.xor_assoc, Nat.xor_self, Nat.zero_xor]
theorem xl {s h : Nat} (a : Sub' h s) (h0 : h ≠ 0) : s ^^^ h < s := by
  have l := sb_le (sb_x a)
  rcases Nat.lt_or_ge (s ^^^ h) s with q | q
  · exact q
  · exfalso
    have e : s ^^^ h = s := by omega
    have := xs s h
    rw [e, Nat.xor_self] at this
    exact h0 this.symm
theorem sb_xx {h0 h s : Nat} (a : Sub' h0 h) (b : Sub' h s) : Sub' (h ^^^ h0) (s ^^^ h0) := fun i hi => by
  rw [Nat.testBit_xor] at hi ⊢
  cases q : h0.testBit i with
  | true => rw [q, a i q] at hi; cases hi
  | false =>
    rw [q] at hi
    cases r : h.testBit i with
    | true => rw [b i r]; rfl
    | false => rw [r] at hi; cases hi
theorem xxx (s h h0 : Nat) : s ^^^ h0 ^^^ (h ^^^ h0) = s ^^^ h := by
  rw [Nat.xor_assoc, Nat.xor_comm h h0, ← Nat.xor_assoc h0 h0 h, Nat.xor_self, Nat.zero_xor]
theorem sb_d2 {h s : Nat} (a : Sub' h s) : Sub' (h / 2) (s / 2) := fun i hi => by
  rw [Nat.testBit_div_two] at hi ⊢
  exact a _ hi
theorem sb_m2 {h s : Nat} (a : Sub' h s) : h % 2 ≤ s % 2 := by
  rcases Nat.mod_two_eq_zero_or_one h with q | q
  · omega
  · have := a 0 (by rw [Nat.testBit_zero]; exact decide_eq_true q)
    rw [Nat.testBit_zero, decide_eq_true_iff] at this
    omega
/-- the next lower set of a set's -/
theorem nxt : ∀ (v m u : Nat), Sub' v m → Sub' u m → u < v → u ≤ (v - 1) &&& m := by
  intro v
  induction v using Nat.strongRecOn with
  | _ v ih =>
    intro m u hv hu hl
    obtain ⟨r, hr⟩ : ∃ r, r = (v - 1) &&& m := ⟨_, rfl⟩
    have d2 : r / 2 = (v - 1) / 2 &&& m / 2 := by rw [hr]; exact Nat.and_div_two
    rw [← hr]
    rcases Nat.mod_two_eq_zero_or_one v with q | q
    · have e1 : (v - 1) / 2 = v / 2 - 1 := by omega
      have i1 := ih (v / 2) (by omega) (m / 2) (u / 2) (sb_d2 hv) (sb_d2 hu) (by omega)
      rw [e1] at d2
      rw [← d2] at i1
      have m1 := sb_m2 hu
      have m2 : r % 2 = m % 2 := by
        have := @Nat.and_mod_two_eq_one (v - 1) m
        rw [← hr] at this
        rcases Nat.mod_two_eq_zero_or_one m with z | z
        · rcases Nat.mod_two_eq_zero_or_one r with w | w
          · omega
          · have := (this.mp w).2; omega
        · have := this.mpr ⟨by omega, z⟩; omega
      omega
    · have e1 : (v - 1) / 2 = v / 2 := by omega
      rw [e1, sb_and (sb_d2 hv)] at d2
      omega
theorem nx_sub (v m : Nat) : Sub' ((v - 1) &&& m) m := fun i hi => by
  rw [Nat.testBit_and, Bool.and_eq_true] at hi
  exact hi.2
theorem nx_lt (v m : Nat) (h : 0 < v) : (v - 1) &&& m < v := by
  have : (v - 1) &&& m ≤ v - 1 := Nat.and_le_left
  omega
/-- the lowest of a set -/
def Lo (s i : Nat) : Prop := s.testBit i = true ∧ ∀ j, j < i → s.testBit j = false
theorem Lo_ex {s n : Nat} (h : s ≠ 0) (hs : s < 2 ^ n) : ∃ i, i < n ∧ Lo s i := by
  have : ∃ i, i < n ∧ s.testBit i = true := by
    refine Classical.byContradiction fun q => h ?_
    apply Nat.eq_of_testBit_eq
    intro i
    rw [Nat.zero_testBit]
    cases r : s.testBit i with
    | false => rfl
    | true =>
      exfalso
      rcases Nat.lt_or_ge i n with z | z
      · exact q ⟨i, z, r⟩
      · rw [Nat.testBit_lt_two_pow (Nat.lt_of_lt_of_le hs (Nat.pow_le_pow_right (by omega) z))] at r; cases r
  obtain ⟨i, h1, h2, h3⟩ := fb_first this
  exact ⟨i, h1, h2, fun j hj => by
    cases r : s.testBit j with
    | false => rfl
    | true => exact absurd r (h3 j hj)⟩
theorem Lo_one {s i j : Nat} (a : Lo s i) (b : Lo s j) : i = j := by
  rcases Nat.lt_trichotomy i j with h | h | h
  · have := b.2 i h; rw [a.1] at this; cases this
  · exact h
  · have := a.2 j h; rw [b.1] at this; cases this
theorem Lo_sub {h s i : Nat} (a : Sub' h s) (b : Lo s i) (c : h.testBit i = true) : Lo h i := ⟨c, fun j hj => by
  cases r : h.testBit j with
  | false => rfl
  | true => have := b.2 j hj; rw [a j r] at this; cases this⟩
theorem sb_lt {h s n : Nat} (a : Sub' h s) (hs : s < 2 ^ n) : h < 2 ^ n := Nat.lt_of_le_of_lt (sb_le a) hs
/-- what a table of the most heaps keeps -/
def HpW (bal : Nat → Prop) : Prop := bal 0 ∧ (∀ h s, Sub' h s → bal s → bal h → bal (s ^^^ h)) ∧ ∀ h s, Sub' h s → bal h → bal (s ^^^ h) → bal s
def HpT (n : Nat) (D : Nat) (bal : Nat → Prop) (hb F : Nat → Nat) : Prop := F 0 = 0 ∧ D < 2 ^ n ∧ (∀ s i, Sub' s D → s ≠ 0 → bal s → Lo s i → ∀ h, Sub' h s → h.testBit i = true → bal h → hb h + F (s ^^^ h) ≤ F s) ∧ ∀ s i, Sub' s D → s ≠ 0 → bal s → Lo s i → ∃ h, Sub' h s ∧ h.testBit i = true ∧ bal h ∧ F s = hb h + F (s ^^^ h)
def HpU (D : Nat) (bal : Nat → Prop) (hb F : Nat → Nat) : Prop := F 0 = 0 ∧ (∀ s h, Sub' s D → bal s → Sub' h s → h ≠ 0 → bal h → hb h + F (s ^^^ h) ≤ F s) ∧ ∀ s, Sub' s D → s ≠ 0 → bal s → ∃ h, Sub' h s ∧ h ≠ 0 ∧ bal h ∧ F s = hb h + F (s ^^^ h)
theorem tb_ne {h i : Nat} (a : h.testBit i = true) : h ≠ 0 := fun q => by rw [q, Nat.zero_testBit] at a; cases a
theorem Hp_sup {n D : Nat} {bal : Nat → Prop} {hb F : Nat → Nat} (W : HpW bal) (T : HpT n D bal hb F) : ∀ s, Sub' s D → bal s → ∀ h, Sub' h s → bal h → F h + F (s ^^^ h) ≤ F s := by
  intro s
  induction s using Nat.strongRecOn with
  | _ s ih =>
    intro hD hs h hh hb'
    by_cases s0 : s = 0
    · subst s0
      have e : h = 0 := by have := sb_le hh; omega
      subst e
      rw [Nat.xor_self, T.1]
      omega
    · obtain ⟨i, hi, li⟩ := Lo_ex s0 (sb_lt hD T.2.1)
      have one : ∀ h, Sub' h s → bal h → h.testBit i = true → F h + F (s ^^^ h) ≤ F s := by
        intro h hh hb' hi
        obtain ⟨h0, a1, a2, a3, a4⟩ := T.2.2.2 h i (sb_t hh hD) (tb_ne hi) hb' (Lo_sub hh li hi)
        have a5 := T.2.2.1 s i hD s0 hs li h0 (sb_t a1 hh) a2 a3
        have lt := xl (sb_t a1 hh) (tb_ne a2)
        have b1 := ih (s ^^^ h0) lt (sb_t (sb_x (sb_t a1 hh)) hD) (W.2.1 _ _ (sb_t a1 hh) hs a3) (h ^^^ h0) (sb_xx a1 hh) (W.2.1 _ _ a1 hb' a3)
        rw [xxx] at b1
        omega
      cases q : h.testBit i with
      | true => exact one h hh hb' q
      | false =>
        have := one (s ^^^ h) (sb_x hh) (W.2.1 _ _ hh hs hb') (by rw [Nat.testBit_xor, li.1, q]; rfl)
        rw [xs] at this
        omega
theorem Hp_U {n D : Nat} {bal : Nat → Prop} {hb F : Nat → Nat} (W : HpW bal) (T : HpT n D bal hb F) : HpU D bal hb F := by
  refine ⟨T.1, fun s h hD hs hh h0 hb' => ?_, fun s hD s0 hs => ?_⟩
  · have a := Hp_sup W T s hD hs h hh hb'
    obtain ⟨i, hi, li⟩ := Lo_ex h0 (sb_lt (sb_t hh hD) T.2.1)
    have b := T.2.2.1 h i (sb_t hh hD) h0 hb' li h (sb_r h) li.1 hb'
    rw [Nat.xor_self, T.1] at b
    omega
  · obtain ⟨i, hi, li⟩ := Lo_ex s0 (sb_lt hD T.2.1)
    obtain ⟨h, a1, a2, a3, a4⟩ := T.2.2.2 s i hD s0 hs li
    exact ⟨h, a1, tb_ne a2, a3, a4⟩
/-- two tables that are alike -/
theorem Hp_eq {D D' : Nat} {bal bal' : Nat → Prop} {hb hb' F G : Nat → Nat} (W : HpW bal) (W' : HpW bal') (U : HpU D bal hb F) (U' : HpU D' bal' hb' G) (R : Nat → Nat → Prop)
    (rD : ∀ s t, R s t → Sub' s D ∧ Sub' t D' ∧ (s = 0 ↔ t = 0) ∧ (bal s ↔ bal' t) ∧ hb s = hb' t) (r1 : ∀ s t h, R s t → Sub' h s → ∃ h', Sub' h' t ∧ R h h' ∧ R (s ^^^ h) (t ^^^ h')) (r2 : ∀ s t h', R s t → Sub' h' t → ∃ h, Sub' h s ∧ R h h' ∧ R (s ^^^ h) (t ^^^ h')) : ∀ s t, R s t → bal s → F s = G t := by
  intro s
  induction s using Nat.strongRecOn with
  | _ s ih =>
    intro t hR hs
    obtain ⟨d1, d2, d3, d4, d5⟩ := rD s t hR
    by_cases s0 : s = 0
    · have t0 := d3.mp s0
      rw [s0, t0, U.1, U'.1]
    · have t0 : t ≠ 0 := fun q => s0 (d3.mpr q)
      have ht := d4.mp hs
      have le1 : F s ≤ G t := by
        obtain ⟨h, a1, a2, a3, a4⟩ := U.2.2 s d1 s0 hs
        obtain ⟨h', b1, b2, b3⟩ := r1 s t h hR a1
        obtain ⟨c1, c2, c3, c4, c5⟩ := rD h h' b2
        have e := ih (s ^^^ h) (xl a1 a2) (t ^^^ h') b3 (W.2.1 _ _ a1 hs a3)
        have := U'.2.1 t h' d2 ht b1 (fun q => a2 (c3.mpr q)) (c4.mp a3)
        omega
      have le2 : G t ≤ F s := by
        obtain ⟨h', a1, a2, a3, a4⟩ := U'.2.2 t d2 t0 ht
        obtain ⟨h, b1, b2, b3⟩ := r2 s t h' hR a1
        obtain ⟨c1, c2, c3, c4, c5⟩ := rD h h' b2
        have h0 : h ≠ 0 := fun q => a2 (c3.mp q)
        have e := ih (s ^^^ h) (xl b1 h0) (t ^^^ h') b3 (W.2.1 _ _ b1 hs (c4.mpr a3))
        have := U.2.1 s h d1 hs b1 h0 (c4.mpr a3)
        omega
      omega
/-- a set of all that is so -/
theorem mkP (P : Nat → Prop) : ∀ n, ∃ s, s < 2 ^ n ∧ ∀ i, s.testBit i = true ↔ i < n ∧ P i
  | 0 => ⟨0, by decide, fun i => ⟨fun h => (by rw [Nat.zero_testBit] at h; cases h), fun h => absurd h.1 (Nat.not_lt_zero i)⟩⟩
  | n + 1 => by
    obtain ⟨s, h1, h2⟩ := mkP P n
    by_cases q : P n
    · refine ⟨s ||| 2 ^ n, Nat.or_lt_two_pow (Nat.lt_of_lt_of_le h1 (Nat.pow_le_pow_right (by omega) (by omega))) (Nat.pow_lt_pow_right (by omega) (by omega)), fun i => ?_⟩
      rw [fb_bit_set, Bool.or_eq_true, decide_eq_true_iff, h2]
      constructor
      · rintro (⟨a, b⟩ | rfl)
        · exact ⟨by omega, b⟩
        · exact ⟨by omega, q⟩
      · rintro ⟨a, b⟩
        by_cases e : i = n
        · exact Or.inr e
        · exact Or.inl ⟨by omega, b⟩
    · refine ⟨s, Nat.lt_of_lt_of_le h1 (Nat.pow_le_pow_right (by omega) (by omega)), fun i => ?_⟩
      rw [h2]
      constructor
      · rintro ⟨a, b⟩; exact ⟨by omega, b⟩
      · rintro ⟨a, b⟩
        refine ⟨?_, b⟩
        rcases Nat.lt_or_ge i n with z | z
        · exact z
        · have : i = n := by omega
          rw [this] at b; exact absurd b q
/-- what a set comes to -/
def bsum (x : Nat → Int32) : Nat → Nat → Int32
  | 0, _ => 0
  | n + 1, s => bsum x n s + (if s.testBit n then x n else 0)
theorem i32_4 (a b c d : Int32) : (a + b) + (c + d) = (a + c) + (b + d) := by ac_rfl
theorem bsum_x (x : Nat → Int32) {h s : Nat} (a : Sub' h s) : ∀ n, bsum x n s = bsum x n h + bsum x n (s ^^^ h)
  | 0 => by simp only [bsum]; rfl
  | n + 1 => by
    simp only [bsum]
    rw [bsum_x x a n, i32_4, Nat.testBit_xor]
    congr 1
    cases q : h.testBit n with
    | true => rw [a n q]; simp
    | false =>
      cases s.testBit n <;> simp
theorem bsum_c {x y : Nat → Int32} (s : Nat) : ∀ n, (∀ i, i < n → x i = y i) → bsum x n s = bsum y n s
  | 0, _ => rfl
  | n + 1, h => by
    simp only [bsum]
    rw [bsum_c s n (fun i hi => h i (by omega)), h n (by omega)]
theorem bsum_0 (x : Nat → Int32) : ∀ n, bsum x n 0 = 0
  | 0 => rfl
  | n + 1 => by simp only [bsum, Nat.zero_testBit]; rw [bsum_0 x n]; rfl
theorem bsum_w (x : Nat → Int32) (n : Nat) : HpW (fun s => bsum x n s = 0) := by
  refine ⟨bsum_0 x n, fun h s a hs hh => ?_, fun h s a hh hx => ?_⟩
  · have := bsum_x x a n
    rw [hs, hh, Int32.zero_add] at this
    exact this.symm
  · show bsum x n s = 0
    rw [bsum_x x a n, hh, hx]; rfl
end
