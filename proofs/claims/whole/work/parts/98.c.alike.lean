section
/-! heaps: two countings of the same -/
section R
variable {m : Nat} {p : Nat → Bool} {x y : Nat → Int32} {al : Nat}
def Rl (m : Nat) (p : Nat → Bool) (al s t : Nat) : Prop := s < 2 ^ fb_ct p m ∧ Sub' t al ∧ ∀ l, l < m → p l = true → s.testBit (fb_ct p l) = t.testBit l
def Al (m : Nat) (p : Nat → Bool) (al : Nat) : Prop := ∀ i, al.testBit i = true ↔ i < m ∧ p i = true
theorem ct_lt {l m : Nat} (hl : l < m) (h : p l = true) : fb_ct p l < fb_ct p m := by
  have := fb_ct_mono p (show l + 1 ≤ m by omega)
  rw [fb_ct_succ, if_pos h] at this
  omega
theorem Rl_sub (hA : Al m p al) {s t : Nat} (h : Rl m p al s t) : Sub' s (2 ^ fb_ct p m - 1) := fun i hi => by
  rw [Nat.testBit_two_pow_sub_one, decide_eq_true_iff]
  rcases Nat.lt_or_ge i (fb_ct p m) with z | z
  · exact z
  · rw [Nat.testBit_lt_two_pow (Nat.lt_of_lt_of_le h.1 (Nat.pow_le_pow_right (by omega) z))] at hi; cases hi
theorem Rl_bit (hA : Al m p al) {s t : Nat} (h : Rl m p al s t) {j : Nat} (hj : s.testBit j = true) : ∃ l, l < m ∧ p l = true ∧ fb_ct p l = j ∧ t.testBit l = true := by
  have := Rl_sub hA h j hj
  rw [Nat.testBit_two_pow_sub_one, decide_eq_true_iff] at this
  obtain ⟨l, l1, l2, l3⟩ := fb_ct_kth this
  exact ⟨l, l1, l2, l3, by rw [← h.2.2 l l1 l2, l3]; exact hj⟩
theorem Rl_bit2 (hA : Al m p al) {s t : Nat} (h : Rl m p al s t) {l : Nat} (hl : t.testBit l = true) : l < m ∧ p l = true ∧ s.testBit (fb_ct p l) = true := by
  obtain ⟨a, b⟩ := (hA l).mp (h.2.1 l hl)
  exact ⟨a, b, by rw [h.2.2 l a b]; exact hl⟩
theorem eq0 {s : Nat} (h : ∀ i, s.testBit i = true → False) : s = 0 := by
  apply Nat.eq_of_testBit_eq
  intro i
  rw [Nat.zero_testBit]
  cases q : s.testBit i with
  | false => rfl
  | true => exact (h i q).elim
theorem Rl_0 (hA : Al m p al) {s t : Nat} (h : Rl m p al s t) : s = 0 ↔ t = 0 := by
  constructor
  · intro e
    exact eq0 fun l hl => by
      have := (Rl_bit2 hA h hl).2.2
      rw [e, Nat.zero_testBit] at this; cases this
  · intro e
    exact eq0 fun j hj => by
      obtain ⟨l, -, -, -, h4⟩ := Rl_bit hA h hj
      rw [e, Nat.zero_testBit] at h4; cases h4
theorem Rl_sum (hA : Al m p al) (hx : ∀ l, l < m → p l = true → x (fb_ct p l) = y l) (hy : ∀ l, l < m → p l = false → y l = 0) {s t : Nat} (h : Rl m p al s t) : ∀ k, k ≤ m → bsum x (fb_ct p k) s = bsum y k t
  | 0, _ => rfl
  | k + 1, hk => by
    have ih := Rl_sum hA hx hy h k (by omega)
    cases q : p k with
    | true =>
      rw [fb_ct_succ, if_pos q]
      simp only [bsum]
      rw [ih, hx k (by omega) q, h.2.2 k (by omega) q]
    | false =>
      rw [fb_ct_succ, if_neg (by rw [q]; decide), Nat.add_zero]
      simp only [bsum]
      rw [ih, hy k (by omega) q]
      cases t.testBit k <;> simp
theorem Rl_1 (hA : Al m p al) {s t h : Nat} (hR : Rl m p al s t) (hh : Sub' h s) : ∃ h', Sub' h' t ∧ Rl m p al h h' ∧ Rl m p al (s ^^^ h) (t ^^^ h') := by
  obtain ⟨h', h1, h2⟩ := mkP (fun l => p l = true ∧ h.testBit (fb_ct p l) = true) m
  have st : Sub' h' t := fun l hl => by
    obtain ⟨a, b, c⟩ := (h2 l).mp hl
    rw [← hR.2.2 l a b]; exact hh _ c
  have bits : ∀ l, l < m → p l = true → h.testBit (fb_ct p l) = h'.testBit l := fun l hl hp => by
    cases q : h'.testBit l with
    | true => exact ((h2 l).mp q).2.2
    | false =>
      cases r : h.testBit (fb_ct p l) with
      | false => rfl
      | true => rw [(h2 l).mpr ⟨hl, hp, r⟩] at q; cases q
  refine ⟨h', st, ⟨sb_lt hh hR.1, sb_t st hR.2.1, bits⟩, ⟨Nat.xor_lt_two_pow hR.1 (sb_lt hh hR.1), sb_t (sb_x st) hR.2.1, fun l hl hp => ?_⟩⟩
  rw [Nat.testBit_xor, Nat.testBit_xor, hR.2.2 l hl hp, bits l hl hp]
theorem Rl_2 (hA : Al m p al) {s t h' : Nat} (hR : Rl m p al s t) (hh : Sub' h' t) : ∃ h, Sub' h s ∧ Rl m p al h h' ∧ Rl m p al (s ^^^ h) (t ^^^ h') := by
  obtain ⟨h, h1, h2⟩ := mkP (fun j => ∃ l, l < m ∧ p l = true ∧ fb_ct p l = j ∧ h'.testBit l = true) (fb_ct p m)
  have st : Sub' h s := fun j hj => by
    obtain ⟨a, l, b1, b2, b3, b4⟩ := (h2 j).mp hj
    rw [← b3, hR.2.2 l b1 b2]; exact hh _ b4
  have bits : ∀ l, l < m → p l = true → h.testBit (fb_ct p l) = h'.testBit l := fun l hl hp => by
    cases q : h.testBit (fb_ct p l) with
    | true =>
      obtain ⟨a, k, b1, b2, b3, b4⟩ := (h2 _).mp q
      have := fb_ct_kth_one b2 hp b3
      rw [← this]; exact b4.symm
    | false =>
      cases r : h'.testBit l with
      | false => rfl
      | true => rw [(h2 _).mpr ⟨ct_lt hl hp, l, hl, hp, rfl, r⟩] at q; cases q
  refine ⟨h, st, ⟨h1, sb_t hh hR.2.1, bits⟩, ⟨Nat.xor_lt_two_pow hR.1 h1, sb_t (sb_x hh) hR.2.1, fun l hl hp => ?_⟩⟩
  rw [Nat.testBit_xor, Nat.testBit_xor, hR.2.2 l hl hp, bits l hl hp]
theorem Rl_all (hA : Al m p al) : Rl m p al (2 ^ fb_ct p m - 1) al := by
  refine ⟨by have := Nat.two_pow_pos (fb_ct p m); omega, sb_r al, fun l hl hp => ?_⟩
  rw [Nat.testBit_two_pow_sub_one, decide_eq_true (ct_lt hl hp), (hA l).mpr ⟨hl, hp⟩]
theorem cnt_ct (s : Nat) : ∀ k, cnt s k = fb_ct (fun j => s.testBit j) k
  | 0 => rfl
  | k + 1 => by
    show cnt s k + s / 2 ^ k % 2 = _
    rw [cnt_ct s k, fb_ct_succ, bit_div]
    cases s.testBit k <;> rfl
theorem ct_al (hA : Al m p al) (hm : m ≤ 25) : cnt al 25 = fb_ct p m := by
  rw [cnt_ct]
  have e := fb_ct_split (fun j => al.testBit j) m (25 - m)
  rw [show m + (25 - m) = 25 by omega] at e
  have z : fb_ct (fun k => al.testBit (m + k)) (25 - m) = 0 := fb_ct_zero.mpr fun k hk => by
    cases q : al.testBit (m + k) with
    | false => rfl
    | true => have := ((hA _).mp q).1; omega
  rw [e, z, Nat.add_zero]
  exact fb_ct_cong fun k hk => by
    cases q : p k with
    | true => exact (hA k).mpr ⟨hk, q⟩
    | false =>
      cases r : al.testBit k with
      | false => rfl
      | true => have := ((hA k).mp r).2; rw [q] at this; cases this
theorem cnt_x {h s : Nat} (a : Sub' h s) : ∀ k, cnt s k = cnt h k + cnt (s ^^^ h) k
  | 0 => rfl
  | k + 1 => by
    have ih := cnt_x a k
    show cnt s k + s / 2 ^ k % 2 = cnt h k + h / 2 ^ k % 2 + (cnt (s ^^^ h) k + (s ^^^ h) / 2 ^ k % 2)
    rw [ih, bit_div, bit_div, bit_div, Nat.testBit_xor]
    cases q : h.testBit k with
    | true => rw [a k q]; simp [bN]; omega
    | false => cases s.testBit k <;> simp [bN] <;> omega
theorem cnt_le (s : Nat) : ∀ k, cnt s k ≤ k
  | 0 => Nat.le_refl _
  | k + 1 => by
    have := cnt_le s k
    show cnt s k + s / 2 ^ k % 2 ≤ k + 1
    omega
end R
theorem nAll {s a : Nat} : (nI s &&& (nI a ^^^ (-1 : Int32))) = 0 ↔ ∀ i, i < 32 → s.testBit i = true → a.testBit i = true := by
  rw [bz]
  have e : ∀ i, i < 32 → bt (nI s &&& (nI a ^^^ (-1 : Int32))) i = (s.testBit i && (a.testBit i ^^ true)) := fun i hi => by
    rw [b_and, b_xor, bt_nI s hi, bt_nI a hi, b_m1 i hi]
  constructor
  · intro h i hi hs
    have := h i hi
    rw [e i hi, hs] at this
    cases q : a.testBit i with
    | true => rfl
    | false => rw [q] at this; cases this
  · intro h i hi
    rw [e i hi]
    cases q : s.testBit i with
    | false => rfl
    | true => rw [h i hi q]; rfl
theorem nAll' {s a : Nat} (hs : s < 1024) : (nI s &&& (nI a ^^^ (-1 : Int32))) = 0 ↔ Sub' s a := by
  rw [nAll]
  constructor
  · intro h i hi
    rcases Nat.lt_or_ge i 32 with z | z
    · exact h i z hi
    · rw [Nat.testBit_lt_two_pow (Nat.lt_of_lt_of_le hs (by rw [show 1024 = 2 ^ 10 from rfl]; exact Nat.pow_le_pow_right (by omega) (by omega)))] at hi; cases hi
  · intro h i _ hi; exact h i hi
end
