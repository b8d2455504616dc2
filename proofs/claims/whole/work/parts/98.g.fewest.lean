section
/-! fewest -/
theorem nNot (a b : Nat) : (nI a &&& (nI b ^^^ (-1 : Int32))) = nI (a ^^^ (a &&& b)) := b_ext (fun i hi => by
  rw [b_and, b_xor, bt_nI a hi, bt_nI b hi, b_m1 i hi, bt_nI _ hi, Nat.testBit_xor, Nat.testBit_and]
  cases a.testBit i <;> cases b.testBit i <;> rfl)
theorem and0 {a b : Nat} : a &&& b = 0 ↔ ∀ i, a.testBit i = true → b.testBit i = true → False := by
  constructor
  · intro h i h1 h2
    have : (a &&& b).testBit i = true := by rw [Nat.testBit_and, h1, h2]; rfl
    rw [h, Nat.zero_testBit] at this; cases this
  · intro h
    exact eq0 fun i hi => by
      rw [Nat.testBit_and, Bool.and_eq_true] at hi
      exact h i hi.1 hi.2
theorem Rl_hb {p : Nat → Bool} {al u r : Nat} (hA : Al 10 p al) (hu : u = fb_ct p 10) (hr : r = fb_ct p 5) {s t : Nat} (h : Rl 10 p al s t) : hbN (2 ^ r - 1) ((2 ^ u - 1) ^^^ ((2 ^ u - 1) &&& (2 ^ r - 1))) s = abN t := by
  have e1 : s &&& (2 ^ r - 1) = 0 ↔ t &&& 31 = 0 := by
    rw [and0, and0]
    constructor
    · intro q l h1 h2
      rw [show (31 : Nat) = 2 ^ 5 - 1 from rfl, Nat.testBit_two_pow_sub_one, decide_eq_true_iff] at h2
      obtain ⟨a, b, c⟩ := Rl_bit2 hA h h1
      exact q _ c (by rw [Nat.testBit_two_pow_sub_one, decide_eq_true_iff, hr]; exact ct_lt h2 b)
    · intro q j h1 h2
      rw [Nat.testBit_two_pow_sub_one, decide_eq_true_iff, hr] at h2
      obtain ⟨l, a, b, c, d⟩ := Rl_bit hA h h1
      refine q l d ?_
      rw [show (31 : Nat) = 2 ^ 5 - 1 from rfl, Nat.testBit_two_pow_sub_one, decide_eq_true_iff]
      rcases Nat.lt_or_ge l 5 with z | z
      · exact z
      · have := fb_ct_mono p z; omega
  have e2 : s &&& ((2 ^ u - 1) ^^^ ((2 ^ u - 1) &&& (2 ^ r - 1))) = 0 ↔ t / 32 = 0 := by
    have bits : ∀ j, ((2 ^ u - 1) ^^^ ((2 ^ u - 1) &&& (2 ^ r - 1))).testBit j = true ↔ j < u ∧ ¬ j < r := fun j => by
      rw [Nat.testBit_xor, Nat.testBit_and, Nat.testBit_two_pow_sub_one, Nat.testBit_two_pow_sub_one]
      by_cases c1 : j < u <;> by_cases c2 : j < r <;> simp [c1, c2]
    rw [and0]
    constructor
    · intro q
      exact eq0 fun i hi => by
        rw [show (32 : Nat) = 2 ^ 5 from rfl, Nat.testBit_div_two_pow] at hi
        obtain ⟨a, b, c⟩ := Rl_bit2 hA h hi
        refine q _ c ((bits _).mpr ⟨by rw [hu]; exact ct_lt a b, ?_⟩)
        have := fb_ct_mono p (show 5 ≤ i + 5 by omega)
        omega
    · intro q j h1 h2
      obtain ⟨-, h3⟩ := (bits j).mp h2
      obtain ⟨l, a, b, c, d⟩ := Rl_bit hA h h1
      rcases Nat.lt_or_ge l 5 with z | z
      · have := ct_lt z b; omega
      · have : (t / 2 ^ 5).testBit (l - 5) = true := by rw [Nat.testBit_div_two_pow, show l - 5 + 5 = l by omega]; exact d
        rw [show (2 : Nat) ^ 5 = 32 from rfl, q, Nat.zero_testBit] at this
        cases this
  unfold hbN abN
  by_cases c1 : s &&& (2 ^ r - 1) = 0
  · rw [if_pos c1, if_pos (e1.mp c1)]
  · rw [if_neg c1, if_neg (fun w => c1 (e1.mpr w))]
    by_cases c2 : s &&& ((2 ^ u - 1) ^^^ ((2 ^ u - 1) &&& (2 ^ r - 1))) = 0
    · rw [if_pos c2, if_pos (e2.mp c2)]
    · rw [if_neg c2, if_neg (fun w => c2 (e2.mpr w))]
/-- the class's numbers of one kind -/
theorem x_f14 {N : Nat} (hN : 20000 ≤ N) {S : St} {V : Vt} {o y : Nat → Int32} {p : Nat → Bool} {kd : Nat} (hk : kd ≤ 1) (hg : ∀ f i, i < 5 → f_X0_gap N S (pA V 58 f) (0 + 1) (nI kd) (nI i) = some (o (5 * kd + i))) (hp : ∀ l, p l = true ↔ ¬ o l = 0) (hy : ∀ l, y l = if l < 5 then o l else -(o l)) (v1 : Int32) {f : Nat → Int32} (h0 : ∀ a, a < 5 * kd → p a = true → f (fb_ct p a) = y a) :
    ∃ f', (∀ a, a < 5 * kd + 5 → p a = true → f' (fb_ct p a) = y a) ∧ ∀ K6, f_X8_fewest_14 N S 0 K6 N (pA V 58 f) v1 (nI (fb_ct p (5 * kd))) (nI kd) (nI 0) = K6 (pA V 58 f') (if kd = 0 then nI (fb_ct p (5 * kd + 5)) else v1) (nI (fb_ct p (5 * kd + 5))) (nI (kd + 1)) := by
  obtain ⟨⟨f', c⟩, ⟨c1, c2⟩, k, en⟩ := lpN N (fun k (s : (Nat → Int32) × Int32) t => some (fun K6 : Vt → Int32 → Int32 → Int32 → Option (Int32 × Vt) => f_X8_fewest_14 N S 0 K6 k (pA V 58 s.1) v1 s.2 (nI kd) t)) 5 (fun t s => s.2 = nI (fb_ct p (5 * kd + t)) ∧ ∀ a, a < 5 * kd + t → p a = true → s.1 (fb_ct p a) = y a) (by
    rintro t ⟨f, c⟩ ht ⟨c1, c2⟩
    have c1' : c = nI (fb_ct p (5 * kd + t)) := c1
    subst c1'
    have lt := fb_ct_le p (5 * kd + t)
    have e60 : ∀ K6 k f z, f_X8_fewest_60 N S 0 (f_X8_fewest_14 N S 0 K6 k) (pA V 58 f) v1 z (nI kd) (nI t) = f_X8_fewest_14 N S 0 K6 k (pA V 58 f) v1 z (nI kd) (nI (t + 1)) := fun K6 k f z => by
      unfold f_X8_fewest_60
      rw [nI_1, pl_bd]
    have n5 : ¬ (5 : Int32) ≤ nI t := by rw [lj 5, nI_L (by omega) (by omega)]; omega
    by_cases q : o (5 * kd + t) = 0
    · have qp : ¬ p (5 * kd + t) = true := fun r => absurd q ((hp _).mp r)
      refine ⟨(f, nI (fb_ct p (5 * kd + (t + 1)))), ⟨rfl, fun a ha hpa => ?_⟩, fun k => ?_⟩
      · rcases (by omega : a < 5 * kd + t ∨ a = 5 * kd + t) with h | h
        · exact c2 a h hpa
        · rw [h] at hpa; exact absurd hpa qp
      · congr 1
        funext K6
        show f_X8_fewest_14 N S 0 K6 (k + 1) (pA V 58 f) v1 (nI (fb_ct p (5 * kd + t))) (nI kd) (nI t) = f_X8_fewest_14 N S 0 K6 k (pA V 58 f) v1 (nI (fb_ct p (5 * kd + t + 1))) (nI kd) (nI (t + 1))
        rw [f_X8_fewest_14, if_neg n5, hg f t ht, pl_ob1, if_pos q, e60, fb_ct_succ, if_neg qp]; rfl
    · have qp : p (5 * kd + t) = true := (hp _).mpr q
      refine ⟨(upd f (fb_ct p (5 * kd + t)) (y (5 * kd + t)), nI (fb_ct p (5 * kd + (t + 1)))), ⟨rfl, fun a ha hpa => ?_⟩, fun k => ?_⟩
      · show upd f (fb_ct p (5 * kd + t)) (y (5 * kd + t)) (fb_ct p a) = y a
        rcases (by omega : a < 5 * kd + t ∨ a = 5 * kd + t) with h | h
        · rw [upd_n _ _ _ _ (by have := ct_lt h hpa; omega)]; exact c2 a h hpa
        · rw [h, upd_e]
      · congr 1
        funext K6
        show f_X8_fewest_14 N S 0 K6 (k + 1) (pA V 58 f) v1 (nI (fb_ct p (5 * kd + t))) (nI kd) (nI t) = f_X8_fewest_14 N S 0 K6 k (pA V 58 (upd f (fb_ct p (5 * kd + t)) (y (5 * kd + t)))) v1 (nI (fb_ct p (5 * kd + t + 1))) (nI kd) (nI (t + 1))
        have e54 : ∀ z, f_X8_fewest_54 N S 0 (f_X8_fewest_14 N S 0 K6 k) (pA V 58 f) v1 (nI (fb_ct p (5 * kd + t))) (nI kd) (nI t) z (nI (fb_ct p (5 * kd + t))) = f_X8_fewest_14 N S 0 K6 k (pA V 58 (upd f (fb_ct p (5 * kd + t)) z)) v1 (nI (fb_ct p (5 * kd + t) + 1)) (nI kd) (nI (t + 1)) := fun z => by
          have pt : f_X2_put N S (pA V 58 f) (0 + 57) (nI (fb_ct p (5 * kd + t))) z = some (pA V 58 (upd f (fb_ct p (5 * kd + t)) z)) := by
            unfold f_X2_put
            rw [pl_ck (by omega) (by omega), nI_cl (by omega), pl_bd]
            exact congrArg some (sA_pAe V 58 (fb_ct p (5 * kd + t)) f z)
          unfold f_X8_fewest_54
          rw [pt, pl_obv, nI_1, pl_bd, e60]
        rw [f_X8_fewest_14, if_neg n5, hg f t ht, pl_ob1, if_neg q, e54, e54, fb_ct_succ, if_pos qp, hy]
        rcases (by omega : kd = 0 ∨ kd = 1) with rfl | rfl
        · rw [if_pos (show nI 0 = 0 from rfl), if_pos (by omega)]
        · rw [if_neg (show ¬ nI 1 = 0 by decide), if_neg (by omega)]) (f, nI (fb_ct p (5 * kd))) (by omega) ⟨rfl, h0⟩
  have c1' : c = nI (fb_ct p (5 * kd + 5)) := c1
  subst c1'
  refine ⟨f', c2, fun K6 => ?_⟩
  have en' : f_X8_fewest_14 N S 0 K6 N (pA V 58 f) v1 (nI (fb_ct p (5 * kd))) (nI kd) (nI 0) = f_X8_fewest_14 N S 0 K6 (k + 1) (pA V 58 f') v1 (nI (fb_ct p (5 * kd + 5))) (nI kd) (nI 5) := congrFun (Option.some.inj en) K6
  rw [en', f_X8_fewest_14, if_pos (by decide)]
  unfold f_X8_fewest_72
  rw [nI_1, pl_bd, pl_bd]
  rcases (by omega : kd = 0 ∨ kd = 1) with rfl | rfl
  · rw [if_pos (show nI 0 = 0 from rfl), if_pos rfl]
  · rw [if_neg (show ¬ nI 1 = 0 by decide), if_neg (by omega)]
section OPS
variable {N b0 : Nat} {X : TxP}
theorem op_fewest (hN : 20000 ≤ N) : Op_fewest N b0 (Rel X b0) := by
  intro S V M hR _
  obtain ⟨hz1, hz2⟩ := hR.2.2.2.2.2.2.2.2.2.2
  obtain ⟨o, ho⟩ : ∃ o : Nat → Int32, o = fun l => ofS (M.2.1 2) (fun i => M.2.1 2 (32 + i)) l := ⟨_, rfl⟩
  obtain ⟨y, hy⟩ : ∃ y : Nat → Int32, y = fun l => if l < 5 then o l else -(o l) := ⟨_, rfl⟩
  have hy' : ∀ l, y l = if l < 5 then o l else -(o l) := fun l => by rw [hy]
  obtain ⟨p, hp⟩ : ∃ p : Nat → Bool, p = fun a => decide (¬ o a = 0) := ⟨_, rfl⟩
  have p1 : ∀ a, p a = true ↔ ¬ o a = 0 := fun a => by rw [hp]; exact decide_eq_true_iff
  have p0 : ∀ a, p a = false → y a = 0 := fun a h => by
    have : o a = 0 := Classical.byContradiction fun q => by rw [(p1 a).mpr q] at h; cases h
    rw [hy', this]
    by_cases c : a < 5
    · rw [if_pos c]
    · rw [if_neg c]; rfl
  have gp : ∀ kd, kd ≤ 1 → ∀ f i, i < 5 → f_X0_gap N S (pA V 58 f) (0 + 1) (nI kd) (nI i) = some (o (5 * kd + i)) := fun kd hk f i hi => by
    have := x_gap hN S (pA V 58 f) 1 kd i hk hi
    rw [pA_n _ _ _ _ (show 1 + 1 ≠ 58 by omega), pA_n _ _ _ _ (show 1 + 3 ≠ 58 by omega)] at this
    have e := gap_eq hR (s := 5 * kd + i) (by omega)
    rw [ho]
    exact this.trans (congrArg some e)
  -- the class's numbers
  obtain ⟨f1, a1, x1⟩ := x_f14 hN (S := S) (V := V) (o := o) (y := y) (p := p) (kd := 0) (by omega) (gp 0 (by omega)) p1 hy' (nI 0) (f := V.2.1 58) (fun a ha => absurd ha (by omega))
  obtain ⟨f, a2, x2⟩ := x_f14 hN (S := S) (V := V) (o := o) (y := y) (p := p) (kd := 1) (by omega) (gp 1 (by omega)) p1 hy' (nI (fb_ct p 5)) (f := f1) (fun a ha h => a1 a (by omega) h)
  obtain ⟨u, hu⟩ : ∃ u, u = fb_ct p 10 := ⟨_, rfl⟩
  obtain ⟨r, hr⟩ : ∃ r, r = fb_ct p 5 := ⟨_, rfl⟩
  have u10 : u ≤ 10 := by rw [hu]; exact fb_ct_le p 10
  have r5 : r ≤ 5 := by rw [hr]; exact fb_ct_le p 5
  have p2u : 2 ^ u ≤ 1024 := (Nat.pow_le_pow_right (n := 2) (by omega) u10 : 2 ^ u ≤ 2 ^ 10)
  have p2r : 2 ^ r ≤ 32 := (Nat.pow_le_pow_right (n := 2) (by omega) r5 : 2 ^ r ≤ 2 ^ 5)
  have posu := Nat.two_pow_pos u
  have posr := Nat.two_pow_pos r
  obtain ⟨cb, hcb⟩ : ∃ cb, cb = (2 ^ u - 1) ^^^ ((2 ^ u - 1) &&& (2 ^ r - 1)) := ⟨_, rfl⟩
  have cbl : cb < 1024 := by
    rw [hcb]
    exact Nat.xor_lt_two_pow (n := 10) (by omega) (Nat.lt_of_le_of_lt Nat.and_le_left (by omega))
  have xs : f_X8_fewest N S V 0 = ob (f_X2_mostEven N S (pA V 58 f) 57 (nI u) (nI (2 ^ r - 1)) (nI cb)) (fun r15 V17 => if r15 = (-1 : Int32) then some ((-1 : Int32), V17) else some (nI u - r15, V17)) := by
    have shr : (1 : Int32) <<< (nI r &&& 31) = nI (2 ^ r) := one_shl (by omega)
    have shu : (1 : Int32) <<< (nI u &&& 31) = nI (2 ^ u) := one_shl (by omega)
    have sr : nI (2 ^ r) - (1 : Int32) = nI (2 ^ r - 1) := by rw [lj 1, pk_sub (by omega)]
    have su : nI (2 ^ u) - (1 : Int32) = nI (2 ^ u - 1) := by rw [lj 1, pk_sub (by omega)]
    have e0 : f_X8_fewest N S V 0 = f_X8_fewest_6 N S 0 N (pA V 58 (V.2.1 58)) (nI 0) (nI 0) (nI 0) := by rw [pA_self]; rfl
    have s1 : ∀ k, f_X8_fewest_6 N S 0 (k + 1) (pA V 58 (V.2.1 58)) (nI 0) (nI 0) (nI 0) = f_X8_fewest_6 N S 0 k (pA V 58 f1) (nI r) (nI r) (nI 1) := fun k => by
      rw [f_X8_fewest_6, if_neg (by decide), hr]
      exact x1 (f_X8_fewest_6 N S 0 k)
    have s2 : ∀ k, f_X8_fewest_6 N S 0 (k + 1) (pA V 58 f1) (nI r) (nI r) (nI 1) = f_X8_fewest_6 N S 0 k (pA V 58 f) (nI r) (nI u) (nI 2) := fun k => by
      rw [f_X8_fewest_6, if_neg (by decide), hr, hu]
      exact x2 (f_X8_fewest_6 N S 0 k)
    have s3 : ∀ k, f_X8_fewest_6 N S 0 (k + 1) (pA V 58 f) (nI r) (nI u) (nI 2) = ob (f_X2_mostEven N S (pA V 58 f) 57 (nI u) (nI (2 ^ r - 1)) (nI cb)) (fun r15 V17 => if r15 = (-1 : Int32) then some ((-1 : Int32), V17) else some (nI u - r15, V17)) := fun k => by
      rw [f_X8_fewest_6, if_pos (by decide), shr, shu, sr, su, pl_bd, nNot, ← hcb]
    have t1 := s1 (N - 1)
    have t2 := s2 (N - 2)
    have t3 := s3 (N - 3)
    rw [show N - 1 + 1 = N by omega] at t1
    rw [show N - 2 + 1 = N - 1 by omega] at t2
    rw [show N - 3 + 1 = N - 2 by omega] at t3
    rw [e0, t1, t2, t3]
  -- the reference's set
  obtain ⟨⟨f15, v⟩, ⟨b1, al, hv, hal, hA⟩, k2, en2⟩ := lpN N (fun k (s : (Nat → Int32) × Int32) t => f_X9_fewest_4 N k (pA M 15 s.1) s.2 t) 10 (fun t s => (∀ j, j < t → s.1 j = o j) ∧ ∃ m, s.2 = nI m ∧ m < 1024 ∧ ∀ i, m.testBit i = true ↔ i < t ∧ p i = true) (by
    rintro t ⟨f, v⟩ ht ⟨b1, m, hv, hm, hb⟩
    have hv' : v = nI m := hv
    subst hv'
    have p10 : 2 ^ t < 1024 := (Nat.pow_lt_pow_right (by omega) ht : 2 ^ t < 2 ^ 10)
    have shl : (1 : Int32) <<< (nI t &&& 31) = nI (2 ^ t) := one_shl (by omega)
    have of : f_X9_offBy N (pA M 15 f) (nI t) = some (o t) := by
      have := m_offBy hN (pA M 15 f) t ht
      rw [pA_n _ _ _ _ (by omega)] at this
      rw [ho]; exact this
    have n10 : ¬ (10 : Int32) ≤ nI t := by rw [lj 10, nI_L (by omega) (by omega)]; omega
    have a15 : (pA M 15 (upd f t (o t))).2.1 15 t = o t := by rw [pA_e, upd_e]
    have e38 : ∀ k a b, f_X9_fewest_38 N (f_X9_fewest_4 N k) (pA M 15 (upd f t (o t))) (nI t) a b = f_X9_fewest_4 N k (pA M 15 (upd f t (o t))) (b ||| a) (nI (t + 1)) := fun k a b => by
      unfold f_X9_fewest_38
      rw [pl_bd, nI_1, pl_bd]
    have bb : ∀ j, j < t + 1 → upd f t (o t) j = o j := fun j hj => by
      by_cases e : j = t
      · rw [e, upd_e]
      · rw [upd_n _ _ _ _ e]; exact b1 j (by omega)
    by_cases q : o t = 0
    · have qp : ¬ p t = true := fun r => absurd q ((p1 t).mp r)
      refine ⟨(upd f t (o t), nI m), ⟨bb, m, rfl, hm, fun i => ?_⟩, fun k => ?_⟩
      · rw [hb i]
        constructor
        · rintro ⟨a, b⟩; exact ⟨by omega, b⟩
        · rintro ⟨a, b⟩
          refine ⟨?_, b⟩
          rcases (by omega : i < t ∨ i = t) with h | h
          · exact h
          · rw [h] at b; exact absurd b qp
      · show f_X9_fewest_4 N (k + 1) (pA M 15 f) (nI m) (nI t) = _
        rw [f_X9_fewest_4, if_neg n10, of, pl_ob1, pl_ck (by omega) (by omega), nI_cl (by omega), sA_pAe, pl_bd, pl_ck (by omega) (by omega), a15, if_pos q, e38, show (0 : Int32) = nI 0 from rfl, fa_or, Nat.or_zero]
    · have qp : p t = true := (p1 t).mpr q
      refine ⟨(upd f t (o t), nI (m ||| 2 ^ t)), ⟨bb, m ||| 2 ^ t, rfl, Nat.or_lt_two_pow (n := 10) hm p10, fun i => ?_⟩, fun k => ?_⟩
      · rw [fb_bit_set, Bool.or_eq_true, decide_eq_true_iff, hb i]
        constructor
        · rintro (⟨a, b⟩ | h)
          · exact ⟨by omega, b⟩
          · rw [h]; exact ⟨by omega, qp⟩
        · rintro ⟨a, b⟩
          rcases (by omega : i < t ∨ i = t) with h | h
          · exact Or.inl ⟨h, b⟩
          · exact Or.inr h
      · show f_X9_fewest_4 N (k + 1) (pA M 15 f) (nI m) (nI t) = _
        rw [f_X9_fewest_4, if_neg n10, of, pl_ob1, pl_ck (by omega) (by omega), nI_cl (by omega), sA_pAe, pl_bd, pl_ck (by omega) (by omega), a15, if_neg q, shl, e38, fa_or]) (M.2.1 15, nI 0) (by omega) ⟨fun j hj => absurd hj (Nat.not_lt_zero j), 0, rfl, by omega, fun i => ⟨fun h => (by rw [Nat.zero_testBit] at h; cases h), fun h => absurd h.1 (Nat.not_lt_zero i)⟩⟩
  have hA' : Al 10 p al := hA
  have hv' : v = nI al := hv
  subst hv'
  obtain ⟨g16, hg16, e16⟩ := m_bal hN (M := pA M 15 f15) (o := o) (fun k hk => by rw [pA_e]; exact b1 k hk)
  rw [← hy] at hg16
  obtain ⟨M2, hM2⟩ : ∃ M2, M2 = pA (pA M 15 f15) 16 g16 := ⟨_, rfl⟩
  have a16 : M2.2.1 16 = g16 := by rw [hM2, pA_e]
  have ms : f_X9_fewest N M = if bsum y 10 al = 0 then f_X9_fewest_70 N N (pA M2 17 (upd (M2.2.1 17) 0 (nI 0))) (nI al) 1 else some (-1, M2) := by
    have e0 : f_X9_fewest N M = f_X9_fewest_4 N N (pA M 15 (M.2.1 15)) (nI 0) (nI 0) := by rw [pA_self]; rfl
    have e1 : f_X9_fewest_4 N N (pA M 15 (M.2.1 15)) (nI 0) (nI 0) = f_X9_fewest_4 N (k2 + 1) (pA M 15 f15) (nI al) (nI 10) := en2
    have c0 : ∀ z : Option (Int32 × Vt), ck (0 : Int32) 1024 z = z := fun _ => rfl
    have s0 : sA M2 17 (0 : Int32).toNatClampNeg (0 : Int32) = pA M2 17 (upd (M2.2.1 17) 0 (nI 0)) := sA_pA M2 17 0 (nI 0)
    rw [e0, e1, f_X9_fewest_4, if_pos (by decide), e16, pl_obv, ← hM2, pl_ck (by omega) (by omega), nI_cl (by omega), a16, hg16 al hal, c0, s0, pl_bd]
  have sm2 : SM0 M M2 := ⟨fun a ha => by rw [hM2, pA_n _ _ _ _ (fun e => by rw [e] at ha; exact absurd ha (by decide)), pA_n _ _ _ _ (fun e => by rw [e] at ha; exact absurd ha (by decide))], fun j _ => by rw [hM2]; rfl⟩
  have hx : ∀ l, l < 10 → p l = true → f (fb_ct p l) = y l := fun l hl h => a2 l (by omega) h
  have hsum : ∀ s t, Rl 10 p al s t → bsum f u s = bsum y 10 t := fun s t h => by
    have := Rl_sum hA' hx (fun l _ h => p0 l h) h 10 (Nat.le_refl 10)
    rw [hu]; exact this
  have full := Rl_all hA'
  rw [← hu] at full
  obtain ⟨f59, z59, hh⟩ := x_heaps (N := N) hN (S := S) (V := pA V 58 f) (x := f) (n := u) (p := 2 ^ r - 1) (q := cb) u10 (by omega) cbl (fun i _ => by rw [pA_e]) (by rw [pA_n _ _ _ _ (by omega)]; exact hz1) (by rw [pA_n _ _ _ _ (by omega)]; exact hz2)
  rcases hh with ⟨h1, ex⟩ | ⟨h1, g, F, g0, F1, T, ex⟩
  · have nb : ¬ bsum y 10 al = 0 := fun z => h1 ((hsum _ _ full).trans z)
    refine ⟨-1, pA (pA V 58 f) 59 f59, M2, by rw [xs, ex, pl_ob, if_pos rfl], by rw [ms, if_neg nb], ?_⟩
    exact Rel_s (Rel_h hR (V' := pA (pA V 58 f) 59 f59) (fun a h1 h2 h3 => by rw [pA_n _ _ _ _ h2, pA_n _ _ _ _ h1]) rfl rfl ⟨by rw [pA_e]; exact z59, by rw [pA_n _ _ _ _ (by omega), pA_n _ _ _ _ (by omega)]; exact hz2⟩) (SX_r _) sm2
  · have yb : bsum y 10 al = 0 := (hsum _ _ full).symm.trans h1
    obtain ⟨g17, c, cl, T', em⟩ := m_f70 hN (M := pA M2 17 (upd (M2.2.1 17) 0 (nI 0))) (y := y) (fun s hs => by rw [pA_n _ _ _ _ (by omega), a16]; exact hg16 s hs) (by rw [pA_e, upd_e]) hal yb
    have FG : F (2 ^ u - 1) = cnt al 25 - c al := Hp_eq (bsum_w f u) (bsum_w y 10) (Hp_U (bsum_w f u) T) (Hp_U (bsum_w y 10) T') (Rl 10 p al) (fun s t h => by
      have sD := Rl_sub hA' h
      rw [← hu] at sD
      refine ⟨sD, h.2.1, Rl_0 hA' h, by rw [hsum s t h], ?_⟩
      rw [hcb]; exact Rl_hb hA' hu hr h) (fun s t h hR hh => Rl_1 hA' hR hh) (fun s t h hR hh => Rl_2 hA' hR hh) (2 ^ u - 1) al full h1
    have cu : cnt al 25 = u := by rw [hu]; exact ct_al hA' (by omega)
    refine ⟨nI (c al), pA (pA (pA V 58 f) 59 f59) 60 g, pA (pA M2 17 (upd (M2.2.1 17) 0 (nI 0))) 17 g17, ?_, by rw [ms, if_pos yb, em], ?_⟩
    · rw [xs, ex, pl_ob, if_neg (nI_m1 (by omega)), pk_sub (by omega), FG, cu, show u - (u - c al) = c al by omega]
    · refine Rel_s (Rel_h hR (V' := pA (pA (pA V 58 f) 59 f59) 60 g) (fun a h1 h2 h3 => by rw [pA_n _ _ _ _ h3, pA_n _ _ _ _ h2, pA_n _ _ _ _ h1]) rfl rfl ⟨by rw [pA_n _ _ _ _ (by omega), pA_e]; exact z59, by rw [pA_e]; exact g0⟩) (SX_r _) (SM_t sm2 ⟨fun a ha => by rw [pA_pA]; exact pA_n _ _ _ _ (fun e => by rw [e] at ha; exact absurd ha (by decide)), fun j _ => rfl⟩)
end OPS
end
