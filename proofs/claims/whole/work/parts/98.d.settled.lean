section
/-! settled -/
def yB (K : Nat → Int32) (a : Nat) : Nat → Int32
  | 0 => 0
  | i + 1 => yB K a i + (if pkA K i = a then nI (pkS K i) else if pkB K i = a then -nI (pkS K i) else 0)
theorem x_bal {N : Nat} (hN : 20000 ≤ N) (S : St) (V : Vt) {K : Nat → Int32} {n : Nat} (h : Pay K n) (hb : bP (V.1 1 13) (V.2.1 10) K) {a : Nat} (ha : a < 5) : f_X0_balanceOf N S V 1 (nI a) = some (yB K a n) := by
  have hn := h.1
  have e13 : V.1 1 13 = nI n := hb.2.1.trans h.2.1
  obtain ⟨t, ht, m, em⟩ := lpN N (fun m t i => f_X0_balanceOf_4 N S V 1 m (nI a) t i) n (fun i t => t = yB K a i) (by
    rintro i t hi rfl
    obtain ⟨⟨ha', hb', hab, h1, h9⟩, ea, eb, es⟩ := h.2.2 i hi
    refine ⟨_, rfl, fun m => ?_⟩
    have va : V.2.1 (1 + 9) (3 * i) = nI (pkA K i) := (hb.1 (3 * i) (by omega)).trans ea
    have vb : V.2.1 (1 + 9) (3 * i + 1) = nI (pkB K i) := (hb.1 (3 * i + 1) (by omega)).trans (by rw [← eb]; congr 1; omega)
    have vs : V.2.1 (1 + 9) (3 * i + 2) = nI (pkS K i) := (hb.1 (3 * i + 2) (by omega)).trans (by rw [← es]; congr 1; omega)
    have e67 : ∀ z, f_X0_balanceOf_67 N S V 1 (f_X0_balanceOf_4 N S V 1 m) (nI a) z (nI i) = f_X0_balanceOf_4 N S V 1 m (nI a) z (nI (i + 1)) := fun z => by
      unfold f_X0_balanceOf_67
      rw [nI_1, pl_bd]
    rw [f_X0_balanceOf_4, e13, if_neg (by rw [nI_L (by omega) (by omega)]; omega), lj 3, pk_mul, pl_ck (by omega) (by omega), nI_cl (by omega), va]
    simp only [yB]
    by_cases c1 : pkA K i = a
    · rw [if_pos (by rw [c1]), if_pos c1, lj 2, nI_add, pl_ck (by omega) (by omega), nI_cl (by omega), vs, pl_bd, e67]
    · rw [if_neg (by rw [nI_E (by omega) (by omega)]; exact c1), if_neg c1, lj 1, nI_add, pl_ck (by omega) (by omega), nI_cl (by omega), vb]
      by_cases c2 : pkB K i = a
      · rw [if_pos (by rw [c2]), if_pos c2, lj 2, nI_add, pl_ck (by omega) (by omega), nI_cl (by omega), vs, Int32.sub_eq_add_neg, pl_bd, e67]
      · rw [if_neg (by rw [nI_E (by omega) (by omega)]; exact c2), if_neg c2, e67, Int32.add_zero]) (nI 0) (by omega) rfl
  have em' : f_X0_balanceOf N S V 1 (nI a) = f_X0_balanceOf_4 N S V 1 (m + 1) (nI a) t (nI n) := em
  have ht' : t = yB K a n := ht
  rw [em', f_X0_balanceOf_4, e13, if_pos (by rw [nI_L (by omega) (by omega)]; omega), ht']
theorem bsum_add (u w : Nat → Int32) (s : Nat) : ∀ n, bsum (fun i => u i + w i) n s = bsum u n s + bsum w n s
  | 0 => by simp only [bsum]; rfl
  | n + 1 => by
    simp only [bsum]
    rw [bsum_add u w s n, i32_4]
    congr 1
    cases s.testBit n <;> simp
theorem bsum_d (z : Int32) (s : Nat) {A B : Nat} (hA : A < 5) (hB : B < 5) (hab : A ≠ B) : bsum (fun a => if A = a then z else if B = a then -z else 0) 5 s = (if s.testBit A then z else 0) + (if s.testBit B then -z else 0) := by
  rcases (by omega : A = 0 ∨ A = 1 ∨ A = 2 ∨ A = 3 ∨ A = 4) with rfl | rfl | rfl | rfl | rfl <;> rcases (by omega : B = 0 ∨ B = 1 ∨ B = 2 ∨ B = 3 ∨ B = 4) with rfl | rfl | rfl | rfl | rfl <;> first
    | exact absurd rfl hab
    | (simp [bsum]; done)
    | (simp [bsum]; exact Int32.add_comm _ _)
theorem i32_s (a b c d : Int32) : (a + b) - (c + d) = (a - c) + (b - d) := by
  rw [Int32.sub_eq_add_neg, Int32.neg_add, Int32.sub_eq_add_neg, Int32.sub_eq_add_neg, Int32.sub_eq_add_neg]
  ac_rfl
/-- how much more goes out of a set than into it -/
theorem mo_sum {K : Nat → Int32} {n s : Nat} (h : Pay K n) (hs : s < 32) : ∀ j, j ≤ n → nI (ouN K j s) - nI (ouN K j (31 ^^^ s)) = bsum (fun a => yB K a j) 5 s
  | 0, _ => by
    show nI 0 - nI 0 = _
    simp only [yB, bsum]
    simp
  | j + 1, hj => by
    have ih := mo_sum h hs j (by omega)
    obtain ⟨⟨ha, hb, hab, h1, h9⟩, -, -, -⟩ := h.2.2 j (by omega)
    have e1 : ouN K (j + 1) s = ouN K j s + ouT K s j := rfl
    have e2 : ouN K (j + 1) (31 ^^^ s) = ouN K j (31 ^^^ s) + ouT K (31 ^^^ s) j := rfl
    rw [e1, e2, ← nI_add, ← nI_add, i32_s, ih]
    have : bsum (fun a => yB K a (j + 1)) 5 s = bsum (fun a => yB K a j) 5 s + bsum (fun a => if pkA K j = a then nI (pkS K j) else if pkB K j = a then -nI (pkS K j) else 0) 5 s := bsum_add _ _ s 5
    rw [this, bsum_d _ s ha hb hab]
    congr 1
    have xb : ∀ i, i < 5 → (31 ^^^ s).testBit i = !s.testBit i := fun i hi => by
      rw [Nat.testBit_xor, show (31 : Nat) = 2 ^ 5 - 1 from rfl, Nat.testBit_two_pow_sub_one, decide_eq_true hi]
      cases s.testBit i <;> rfl
    unfold ouT
    rw [bit_div, bit_div, bit_div, bit_div, xb _ ha, xb _ hb]
    cases s.testBit (pkA K j) <;> cases s.testBit (pkB K j)
    · simp [bN]
    · simp [bN]; exact Int32.zero_sub _
    · simp [bN]; exact Int32.sub_zero _
    · simp only [bN]
      simp
      exact (Int32.add_right_neg _).symm
theorem bsum_1 (y : Nat → Int32) {a : Nat} (ha : a < 5) : bsum y 5 (2 ^ a) = y a := by
  have tb : ∀ i, (2 ^ a).testBit i = decide (a = i) := fun i => Nat.testBit_two_pow
  generalize 2 ^ a = z at tb
  simp only [bsum, tb]
  rcases (by omega : a = 0 ∨ a = 1 ∨ a = 2 ∨ a = 3 ∨ a = 4) with rfl | rfl | rfl | rfl | rfl <;> simp
theorem m_more {N : Nat} (hN : 20000 ≤ N) (M : Vt) {n : Nat} (h : Pay (M.2.1 2) n) {s : Nat} (hs : s < 32) : f_X9_moreOut N M (nI s) = some (bsum (fun a => yB (M.2.1 2) a n) 5 s) := by
  have x31 : 31 ^^^ s < 32 := Nat.xor_lt_two_pow (n := 5) (by omega) hs
  unfold f_X9_moreOut
  rw [m_outOf hN M h hs, pl_ob1, lj 31, fb_xorI, m_outOf hN M h x31, pl_ob1, mo_sum h hs n (Nat.le_refl n)]
theorem ouN_0 {K : Nat → Int32} (s : Nat) (h : s = 0 ∨ s = 31) : ∀ {n m : Nat}, Pay K m → n ≤ m → ouN K n s = 0
  | 0, _, _, _ => rfl
  | n + 1, m, hP, hn => by
    show ouN K n s + ouT K s n = 0
    rw [ouN_0 s h hP (by omega)]
    obtain ⟨⟨ha, hb, hab, h1, h9⟩, -, -, -⟩ := hP.2.2 n (by omega)
    unfold ouT
    rw [bit_div, bit_div]
    rcases h with rfl | rfl
    · rw [Nat.zero_testBit, if_neg (by simp [bN])]
    · rw [show (31 : Nat) = 2 ^ 5 - 1 from rfl, Nat.testBit_two_pow_sub_one, Nat.testBit_two_pow_sub_one, decide_eq_true hb, if_neg (by simp [bN])]
theorem grT (N : Nat) (a b : Int32) : ∃ z, f_X9_greater N a b = some z := by
  unfold f_X9_greater
  by_cases h : a ≤ b
  · exact ⟨_, by rw [if_pos h]⟩
  · exact ⟨_, by rw [if_neg h]⟩
/-- the loop over the heaps of a set -/
theorem m_s70 {N : Nat} (hN : 20000 ≤ N) {M : Vt} {n : Nat} (hP : Pay (M.2.1 2) n) {s al : Nat} (hs : s < 32) (hal : Sub' s al) {G : Nat → Nat} {h0 : Nat → Int32} (hG : ∀ r, r < s → Sub' r al → bsum (fun a => yB (M.2.1 2) a n) 5 r = 0 → h0 r = nI (G r) ∧ G r ≤ r) :
    ∀ v h, Sub' v s → (∀ r, r ≠ s → h r = h0 r) → ∃ h', (∀ r, r ≠ s → h' r = h0 r) ∧ (∀ K37 k, v < k → f_X9_settled_70 N K37 k (pA M 21 h) (nI al) (nI s) (nI v) = f_X9_settled_128 N K37 (pA M 21 h') (nI al) (nI s)) ∧ (bsum (fun a => yB (M.2.1 2) a n) 5 s = 0 → ∀ b, b ≤ s → h s = nI b → ∃ b', b' ≤ s ∧ h' s = nI b' ∧ b ≤ b' ∧ (∀ r, Sub' r s → 0 < r → r ≤ v → bsum (fun a => yB (M.2.1 2) a n) 5 r = 0 → G (s ^^^ r) + 1 ≤ b') ∧ (b' = b ∨ ∃ r, Sub' r s ∧ 0 < r ∧ bsum (fun a => yB (M.2.1 2) a n) 5 r = 0 ∧ b' = G (s ^^^ r) + 1)) := by
  intro v
  have W := bsum_w (fun a => yB (M.2.1 2) a n) 5
  induction v using Nat.strongRecOn with
  | _ v ih =>
    intro h hv hh
    have lv := sb_le hv
    by_cases v0 : v = 0
    · subst v0
      refine ⟨h, hh, fun K37 k hk => ?_, fun hb b hb2 e => ⟨b, hb2, e, Nat.le_refl _, fun r h1 h2 h3 => absurd h2 (by omega), Or.inl rfl⟩⟩
      obtain ⟨k', rfl⟩ : ∃ z, k = z + 1 := ⟨k - 1, by omega⟩
      rw [f_X9_settled_70, if_pos (by decide)]
    · have w1 := nx_lt v s (by omega)
      have w2 := nx_sub v s
      have nv : ¬ nI v ≤ 0 := by rw [show (0 : Int32) = nI 0 from rfl, nI_L (by omega) (by omega)]; omega
      have mo : ∀ h, f_X9_moreOut N (pA M 21 h) (nI v) = some (bsum (fun a => yB (M.2.1 2) a n) 5 v) := fun h => by
        have := m_more hN (pA M 21 h) (n := n) (by rw [pA_n _ _ _ _ (by omega)]; exact hP) (s := v) (by omega)
        rw [pA_n _ _ _ _ (by omega)] at this
        exact this
      have e119 : ∀ K37 k h, f_X9_settled_119 N (f_X9_settled_70 N K37 k) (pA M 21 h) (nI al) (nI s) (nI v) = f_X9_settled_70 N K37 k (pA M 21 h) (nI al) (nI s) (nI ((v - 1) &&& s)) := fun K37 k h => by
        unfold f_X9_settled_119
        rw [lj 1, pk_sub (by omega), fa_and, pl_bd]
      have xlt : s ^^^ v < s := xl hv v0
      have a21 : ∀ h j, (pA M 21 h).2.1 21 j = h j := fun h j => by rw [pA_e]
      by_cases c : bsum (fun a => yB (M.2.1 2) a n) 5 v = 0
      · by_cases c2 : h (s ^^^ v) = -1
        · obtain ⟨h', g1, g2, g3⟩ := ih ((v - 1) &&& s) w1 h w2 hh
          refine ⟨h', g1, fun K37 k hk => ?_, fun hb b hb2 e => ?_⟩
          · obtain ⟨k', rfl⟩ : ∃ z, k = z + 1 := ⟨k - 1, by omega⟩
            rw [f_X9_settled_70, if_neg nv, mo h, pl_ob1, if_pos c, fb_xorI, pl_ck (by omega) (by omega), nI_cl (by omega), a21, if_pos c2, e119]
            exact g2 K37 k' (by omega)
          · exfalso
            have := (hG (s ^^^ v) xlt (sb_t (sb_x hv) hal) (W.2.1 _ _ hv hb c)).1
            rw [← hh _ (by omega), c2] at this
            have l2 := (hG (s ^^^ v) xlt (sb_t (sb_x hv) hal) (W.2.1 _ _ hv hb c)).2
            exact nI_m1 (by omega) this.symm
        · obtain ⟨z, hz⟩ := grT N (h s) (h (s ^^^ v) + 1)
          obtain ⟨h', g1, g2, g3⟩ := ih ((v - 1) &&& s) w1 (upd h s z) w2 (fun r hr => by rw [upd_n _ _ _ _ hr]; exact hh r hr)
          refine ⟨h', g1, fun K37 k hk => ?_, fun hb b hb2 e => ?_⟩
          · obtain ⟨k', rfl⟩ : ∃ z, k = z + 1 := ⟨k - 1, by omega⟩
            rw [f_X9_settled_70, if_neg nv, mo h, pl_ob1, if_pos c, fb_xorI, pl_ck (by omega) (by omega), nI_cl (by omega), a21, if_neg c2, pl_ck (by omega) (by omega), nI_cl (by omega), pl_ck (by omega) (by omega), a21, hz, pl_ob1, pl_ck (by omega) (by omega), sA_pAe, pl_bd, e119]
            exact g2 K37 k' (by omega)
          · obtain ⟨q1, q2⟩ := hG (s ^^^ v) xlt (sb_t (sb_x hv) hal) (W.2.1 _ _ hv hb c)
            have ez : z = nI (max b (G (s ^^^ v) + 1)) := by
              rw [e, hh _ (by omega), q1, nI_1, m_great (by omega) (by omega)] at hz
              exact (Option.some.inj hz).symm
            obtain ⟨b', p0, p1, p2, p3, p4⟩ := g3 hb (max b (G (s ^^^ v) + 1)) (by omega) (by rw [upd_e]; exact ez)
            refine ⟨b', p0, p1, by omega, fun r h1 h2 h3 h4 => ?_, ?_⟩
            · by_cases er : r = v
              · subst er; omega
              · exact p3 r h1 h2 (nxt v s r hv h1 (by omega)) h4
            · rcases p4 with p4 | p4
              · rcases (by omega : b' = b ∨ b' = G (s ^^^ v) + 1) with w | w
                · exact Or.inl w
                · exact Or.inr ⟨v, hv, by omega, c, w⟩
              · exact Or.inr p4
      · obtain ⟨h', g1, g2, g3⟩ := ih ((v - 1) &&& s) w1 h w2 hh
        refine ⟨h', g1, fun K37 k hk => ?_, fun hb b hb2 e => ?_⟩
        · obtain ⟨k', rfl⟩ : ∃ z, k = z + 1 := ⟨k - 1, by omega⟩
          rw [f_X9_settled_70, if_neg nv, mo h, pl_ob1, if_neg c, e119]
          exact g2 K37 k' (by omega)
        · obtain ⟨b', p0, p1, p2, p3, p4⟩ := g3 hb b hb2 e
          refine ⟨b', p0, p1, p2, fun r h1 h2 h3 h4 => ?_, p4⟩
          by_cases er : r = v
          · subst er; exact absurd h4 c
          · exact p3 r h1 h2 (nxt v s r hv h1 (by omega)) h4
end
