section
/-! heaps: the class's table -/
def lwN (s : Nat) : Nat := s - (s &&& (s - 1))
theorem lw_all : ∀ s : Fin 1024, s.1 = 0 ∨ ((nI s.1 &&& (-nI s.1)) = nI (lwN s.1) ∧ ∃ i : Fin 10, lwN s.1 = 2 ^ i.1 ∧ s.1.testBit i.1 = true ∧ ∀ j : Fin 10, j.1 < i.1 → s.1.testBit j.1 = false) := by decide +kernel
theorem lw_of {s : Nat} (hs : s < 1024) (h0 : s ≠ 0) : ∃ i, i < 10 ∧ Lo s i ∧ (nI s &&& (-nI s)) = nI (2 ^ i) := by
  rcases lw_all ⟨s, hs⟩ with h | ⟨h1, i, h2, h3, h4⟩
  · exact absurd h h0
  · refine ⟨i.1, i.2, ⟨h3, fun j hj => h4 ⟨j, by omega⟩ hj⟩, ?_⟩
    have h1' : (nI s &&& (-nI s)) = nI (lwN s) := h1
    have h2' : lwN s = 2 ^ i.1 := h2
    rw [h1', h2']
def hbN (p q h : Nat) : Nat := if h &&& p = 0 then 0 else if h &&& q = 0 then 0 else 1
theorem x_hasBoth {N p q h : Nat} (hh : h < 1024) (hp : p < 1024) (hq : q < 1024) : f_X2_hasBoth N (nI h) (nI p) (nI q) = some (nI (hbN p q h)) := by
  have a1 : h &&& p ≤ h := Nat.and_le_left
  have a2 : h &&& q ≤ h := Nat.and_le_left
  unfold f_X2_hasBoth hbN
  rw [fa_and, fa_and]
  by_cases c : h &&& p = 0
  · rw [if_pos (show nI (h &&& p) = 0 by rw [c]; rfl), if_pos c]; rfl
  · rw [if_neg (nI_ne0 (by omega) (by omega)), if_neg c]
    by_cases d : h &&& q = 0
    · rw [if_pos (show nI (h &&& q) = 0 by rw [d]; rfl), if_pos d]; rfl
    · rw [if_neg (nI_ne0 (by omega) (by omega)), if_neg d]; rfl
theorem hbN_1 (p q h : Nat) : hbN p q h ≤ 1 := by
  unfold hbN
  by_cases c : h &&& p = 0
  · rw [if_pos c]; omega
  · rw [if_neg c]
    by_cases d : h &&& q = 0
    · rw [if_pos d]; omega
    · rw [if_neg d]; omega
/-- the loop over what is left -/
theorem x_in24 {N : Nat} {S : St} {V : Vt} {s m p q : Nat} {F : Nat → Nat} (hs : s < 1024) (hp : p < 1024) (hq : q < 1024) (hm : Sub' m s) (hl : m < s) (hF : ∀ r, r < s → V.2.1 59 r = 0 → V.2.1 60 r = nI (F r) ∧ F r ≤ r) :
    ∀ v k b, v < k → Sub' v m → b ≤ s → ∃ b', b' ≤ s ∧ f_X2_mostIn_24 N S V 57 k (nI s) (nI p) (nI q) (nI m) (nI b) (nI v) = some (nI b') ∧ b ≤ b' ∧ (∀ r, Sub' r m → 0 < r → r ≤ v → V.2.1 59 r = 0 → F r + hbN p q (s ^^^ r) ≤ b') ∧ (b' = b ∨ ∃ r, Sub' r m ∧ 0 < r ∧ V.2.1 59 r = 0 ∧ b' = F r + hbN p q (s ^^^ r)) := by
  intro v
  induction v using Nat.strongRecOn with
  | _ v ih =>
    intro k b hk hv hb
    obtain ⟨k', rfl⟩ : ∃ z, k = z + 1 := ⟨k - 1, by omega⟩
    have lv := sb_le hv
    by_cases v0 : v = 0
    · subst v0
      refine ⟨b, hb, ?_, Nat.le_refl _, fun r h1 h2 h3 => absurd h2 (by omega), Or.inl rfl⟩
      rw [f_X2_mostIn_24, if_pos (by decide)]
    · have w1 := nx_lt v m (by omega)
      have w2 := nx_sub v m
      have nv : ¬ nI v ≤ 0 := by rw [show (0 : Int32) = nI 0 from rfl, nI_L (by omega) (by omega)]; omega
      have e63 : ∀ x, f_X2_mostIn_63 N S V 57 (f_X2_mostIn_24 N S V 57 k') (nI s) (nI p) (nI q) (nI m) x (nI v) = f_X2_mostIn_24 N S V 57 k' (nI s) (nI p) (nI q) (nI m) x (nI ((v - 1) &&& m)) := fun x => by
        unfold f_X2_mostIn_63
        rw [lj 1, pk_sub (by omega), fa_and, pl_bd]
      have vs : v < s := by omega
      have xlt : s ^^^ v < 1024 := by have := sb_le (sb_x (sb_t hv hm)); omega
      by_cases c : V.2.1 59 v = 0
      · obtain ⟨f1, f2⟩ := hF v vs c
        have hb1 := hbN_1 p q (s ^^^ v)
        obtain ⟨b', g0, g1, g2, g3, g4⟩ := ih ((v - 1) &&& m) w1 k' (max b (F v + hbN p q (s ^^^ v))) (by omega) w2 (by omega)
        refine ⟨b', g0, ?_, by omega, fun r h1 h2 h3 h4 => ?_, ?_⟩
        · have c' : V.2.1 (57 + 2) v = 0 := c
          have f1' : V.2.1 (57 + 3) v = nI (F v) := f1
          rw [f_X2_mostIn_24, if_neg nv, pl_ck (by omega) (by omega), nI_cl (by omega), if_pos c', pl_ck (by omega) (by omega), fb_xorI, x_hasBoth xlt hp hq, pl_ob1, f1', nI_add, mx_nI (by omega) (by omega), pl_bd, e63]
          exact g1
        · by_cases e : r = v
          · subst e; omega
          · exact g3 r h1 h2 (nxt v m r hv h1 (by omega)) h4
        · rcases g4 with g4 | ⟨r, h1, h2, h3, h4⟩
          · rcases (by omega : b' = b ∨ b' = F v + hbN p q (s ^^^ v)) with z | z
            · exact Or.inl z
            · exact Or.inr ⟨v, hv, by omega, c, z⟩
          · exact Or.inr ⟨r, h1, h2, h3, h4⟩
      · obtain ⟨b', g0, g1, g2, g3, g4⟩ := ih ((v - 1) &&& m) w1 k' b (by omega) w2 hb
        refine ⟨b', g0, ?_, g2, fun r h1 h2 h3 h4 => ?_, g4⟩
        · have c' : ¬ V.2.1 (57 + 2) v = 0 := c
          rw [f_X2_mostIn_24, if_neg nv, pl_ck (by omega) (by omega), nI_cl (by omega), if_neg c', e63]
          exact g1
        · by_cases e : r = v
          · subst e; exact absurd h4 c
          · exact g3 r h1 h2 (nxt v m r hv h1 (by omega)) h4
/-- the most heaps of one set -/
theorem x_mostIn {N : Nat} (hN : 20000 ≤ N) {S : St} {V : Vt} {x : Nat → Int32} {n s p q : Nat} {F : Nat → Nat} (hn : n ≤ 10) (hsn : s < 2 ^ n) (h0 : s ≠ 0) (hp : p < 1024) (hq : q < 1024) (h59 : ∀ r, r < 2 ^ n → V.2.1 59 r = bsum x n r) (hbal : bsum x n s = 0) (hF : ∀ r, r < s → bsum x n r = 0 → V.2.1 60 r = nI (F r) ∧ F r ≤ r) (hF0 : F 0 = 0) : ∃ b, b ≤ s ∧ f_X2_mostIn N S V 57 (nI s) (nI p) (nI q) = some (nI b) ∧ (∀ i h, Lo s i → Sub' h s → h.testBit i = true → bsum x n h = 0 → hbN p q h + F (s ^^^ h) ≤ b) ∧ ∀ i, Lo s i → ∃ h, Sub' h s ∧ h.testBit i = true ∧ bsum x n h = 0 ∧ b = hbN p q h + F (s ^^^ h) := by
  have p2 : 2 ^ n ≤ 1024 := (Nat.pow_le_pow_right (n := 2) (by omega) hn : 2 ^ n ≤ 2 ^ 10)
  have W := bsum_w x n
  obtain ⟨i, hi, li, ei⟩ := lw_of (show s < 1024 by omega) h0
  have s2 : Sub' (2 ^ i) s := fun j hj => by
    rw [Nat.testBit_two_pow, decide_eq_true_iff] at hj
    rw [← hj]; exact li.1
  have m1 := sb_x s2
  have m2 : s ^^^ 2 ^ i < s := xl s2 (tb_ne (Nat.testBit_two_pow_self (n := i)))
  obtain ⟨m, hm⟩ : ∃ m, m = s ^^^ 2 ^ i := ⟨_, rfl⟩
  rw [← hm] at m1 m2
  have mb : ∀ r, Sub' r m ↔ Sub' r s ∧ r.testBit i = false := by
    intro r
    constructor
    · intro h
      refine ⟨sb_t h m1, ?_⟩
      cases z : r.testBit i with
      | false => rfl
      | true =>
        have := h i z
        rw [hm, fb_bit_flip, li.1] at this
        simp at this
    · rintro ⟨h1, h2⟩ j hj
      rw [hm, fb_bit_flip, h1 j hj]
      by_cases e : j = i
      · rw [e, h2] at hj; cases hj
      · simp [e]
  have hb1 := hbN_1 p q s
  obtain ⟨b, g0, g1, g2, g3, g4⟩ := x_in24 (N := N) (S := S) (V := V) (s := s) (m := m) (p := p) (q := q) (F := F) (by omega) hp hq m1 m2 (fun r hr hr2 => hF r hr (by rw [← h59 r (by omega)]; exact hr2)) m N (hbN p q s) (by omega) (sb_r m) (by omega)
  have e0 : f_X2_mostIn N S V 57 (nI s) (nI p) (nI q) = some (nI b) := by
    unfold f_X2_mostIn
    rw [ei, pl_bd, fb_xorI, pl_bd, ← hm, x_hasBoth (by omega) hp hq, pl_ob1]
    exact g1
  refine ⟨b, g0, e0, fun j h lj hh hj hb => ?_, fun j lj => ?_⟩
  · have ej := Lo_one lj li
    subst ej
    by_cases e : h = s
    · rw [e, Nat.xor_self, hF0]; omega
    · have r1 : Sub' (s ^^^ h) m := (mb _).mpr ⟨sb_x hh, by rw [Nat.testBit_xor, lj.1, hj]; rfl⟩
      have r0 : s ^^^ h ≠ 0 := fun z => e (by have := xs s h; rw [z, Nat.xor_zero] at this; exact this.symm)
      have l1 := sb_le r1
      have := g3 (s ^^^ h) r1 (by omega) l1 (by rw [h59 _ (by omega)]; exact W.2.1 _ _ hh hbal hb)
      rw [xs] at this
      omega
  · have ej := Lo_one lj li
    subst ej
    rcases g4 with g4 | ⟨r, h1, h2, h3, h4⟩
    · exact ⟨s, sb_r s, lj.1, hbal, by rw [Nat.xor_self, hF0]; omega⟩
    · obtain ⟨k1, k2⟩ := (mb r).mp h1
      have l1 := sb_le h1
      refine ⟨s ^^^ r, sb_x k1, by rw [Nat.testBit_xor, lj.1, k2]; rfl, W.2.1 _ _ k1 hbal (by show bsum x n r = 0; rw [← h59 r (by omega)]; exact h3), ?_⟩
      rw [xs]; omega
/-- what each set comes to -/
theorem bsum_b (x : Nat → Int32) {s t : Nat} : ∀ n, (∀ j, j < n → s.testBit j = t.testBit j) → bsum x n s = bsum x n t
  | 0, _ => rfl
  | n + 1, h => by
    simp only [bsum]
    rw [bsum_b x n (fun j hj => h j (by omega)), h n (by omega)]
theorem x_12 {N : Nat} (hN : 20000 ≤ N) {S : St} {V : Vt} {x : Nat → Int32} {n i : Nat} (hn : n ≤ 10) (hi : i < n) (hx : V.2.1 58 i = x i) (v2 v3 : Int32) {f : Nat → Int32} (h1 : ∀ s, s < 2 ^ i → f s = bsum x i s) : ∃ f', (∀ s, s < 2 ^ (i + 1) → f' s = bsum x (i + 1) s) ∧ ∀ K3, f_X2_mostEven_12 N S 57 K3 N (pA V 59 f) (nI n) v2 v3 (nI i) (nI 0) = K3 (pA V 59 f') (nI n) v2 v3 (nI (i + 1)) := by
  have p2 : 2 ^ n ≤ 1024 := (Nat.pow_le_pow_right (n := 2) (by omega) hn : 2 ^ n ≤ 2 ^ 10)
  have pi : 2 ^ i < 1024 := Nat.lt_of_lt_of_le (Nat.pow_lt_pow_right (by omega) hi) p2
  have p1 : 2 ^ (i + 1) ≤ 1024 := Nat.le_trans (Nat.pow_le_pow_right (by omega) hi) p2
  have pp : 2 ^ (i + 1) = 2 ^ i + 2 ^ i := by rw [Nat.pow_succ]; omega
  have shl : (1 : Int32) <<< (nI i &&& 31) = nI (2 ^ i) := one_shl (by omega)
  obtain ⟨f', ⟨g1, g2⟩, k, en⟩ := lpN N (fun k (f : Nat → Int32) s => some (fun K3 : Vt → Int32 → Int32 → Int32 → Int32 → Option (Int32 × Vt) => f_X2_mostEven_12 N S 57 K3 k (pA V 59 f) (nI n) v2 v3 (nI i) s)) (2 ^ i) (fun t f => (∀ s, s < 2 ^ i → f s = bsum x i s) ∧ ∀ s, s < t → f (2 ^ i + s) = bsum x i s + x i) (by
    intro t f ht ⟨h1, h2⟩
    refine ⟨upd f (2 ^ i + t) (bsum x i t + x i), ⟨fun s hs => by rw [upd_n _ _ _ _ (by omega)]; exact h1 s hs, fun s hs => ?_⟩, fun k => ?_⟩
    · by_cases e : s = t
      · rw [e, upd_e]
      · rw [upd_n _ _ _ _ (by omega)]; exact h2 s (by omega)
    · congr 1
      funext K3
      have o1 : nI t ||| nI (2 ^ i) = nI (2 ^ i + t) := by
        rw [fa_or, Nat.or_comm]
        have := Nat.two_pow_add_eq_or_of_lt ht 1
        rw [Nat.mul_one] at this
        rw [← this]
      have a59 : (pA V 59 f).2.1 (57 + 2) t = bsum x i t := by
        show (pA V 59 f).2.1 59 t = _
        rw [pA_e]; exact h1 t ht
      have a58 : (pA V 59 f).2.1 (57 + 1) i = x i := by
        show (pA V 59 f).2.1 58 i = _
        rw [pA_n _ _ _ _ (by omega)]; exact hx
      have s59 : ∀ j y, sA (pA V 59 f) (57 + 2) j y = pA V 59 (upd f j y) := fun j y => sA_pAe V 59 j f y
      rw [f_X2_mostEven_12, shl, if_neg (by rw [nI_L (by omega) (by omega)]; omega), pl_ck (by omega) (by omega), pl_ck (by omega) (by omega), o1, pl_ck (by omega) (by omega), nI_cl (by omega), nI_cl (by omega), nI_cl (by omega), a59, a58, s59, pl_bd, nI_1, pl_bd]) f (by omega) ⟨h1, fun s hs => absurd hs (Nat.not_lt_zero s)⟩
  refine ⟨f', fun s hs => ?_, fun K3 => ?_⟩
  · simp only [bsum]
    by_cases c : s < 2 ^ i
    · rw [g1 s c, Nat.testBit_lt_two_pow c]; simp
    · obtain ⟨t, rfl⟩ : ∃ t, s = 2 ^ i + t := ⟨s - 2 ^ i, by omega⟩
      have tb : (2 ^ i + t).testBit i = true := by
        have := Nat.two_pow_add_eq_or_of_lt (show t < 2 ^ i by omega) 1
        rw [Nat.mul_one] at this
        rw [this, Nat.testBit_or, Nat.testBit_two_pow_self]; rfl
      rw [g2 t (by omega), tb, if_pos rfl]
      congr 1
      apply bsum_b
      intro j hj
      have := Nat.two_pow_add_eq_or_of_lt (show t < 2 ^ i by omega) 1
      rw [Nat.mul_one] at this
      rw [this, Nat.testBit_or, Nat.testBit_two_pow, decide_eq_false (by omega), Bool.false_or]
  · have en' := congrFun (Option.some.inj en) K3
    have en2 : f_X2_mostEven_12 N S 57 K3 N (pA V 59 f) (nI n) v2 v3 (nI i) (nI 0) = f_X2_mostEven_12 N S 57 K3 (k + 1) (pA V 59 f') (nI n) v2 v3 (nI i) (nI (2 ^ i)) := en'
    rw [en2, f_X2_mostEven_12, shl, if_pos (by rw [nI_L (by omega) (by omega)]; omega), nI_1, pl_bd]
theorem x_sums {N : Nat} (hN : 20000 ≤ N) {S : St} {V : Vt} {x : Nat → Int32} {n : Nat} (hn : n ≤ 10) (hx : ∀ i, i < n → V.2.1 58 i = x i) (h0 : V.2.1 59 0 = nI 0) (v2 v3 : Int32) : ∃ f, (∀ s, s < 2 ^ n → f s = bsum x n s) ∧ ∃ k, f_X2_mostEven N S V 57 (nI n) v2 v3 = f_X2_mostEven_3 N S 57 (k + 1) (pA V 59 f) (nI n) v2 v3 (nI n) := by
  obtain ⟨f, g1, k, en⟩ := lpN N (fun k (f : Nat → Int32) i => f_X2_mostEven_3 N S 57 k (pA V 59 f) (nI n) v2 v3 i) n (fun i f => ∀ s, s < 2 ^ i → f s = bsum x i s) (by
    intro i f hi h1
    obtain ⟨f', a1, a2⟩ := x_12 (N := N) hN (S := S) (V := V) (x := x) hn hi (hx i hi) v2 v3 h1
    refine ⟨f', a1, fun k => ?_⟩
    show f_X2_mostEven_3 N S 57 (k + 1) (pA V 59 f) (nI n) v2 v3 (nI i) = _
    rw [f_X2_mostEven_3, if_neg (by rw [nI_L (by omega) (by omega)]; omega)]
    exact a2 (f_X2_mostEven_3 N S 57 k)) (V.2.1 59) (by omega) (fun s hs => by
      have : s = 0 := by have : 2 ^ 0 = 1 := rfl; omega
      rw [this, h0]; rfl)
  refine ⟨f, g1, k, ?_⟩
  have en' : f_X2_mostEven_3 N S 57 N (pA V 59 (V.2.1 59)) (nI n) v2 v3 (nI 0) = f_X2_mostEven_3 N S 57 (k + 1) (pA V 59 f) (nI n) v2 v3 (nI n) := en
  rw [pA_self] at en'
  exact en'
/-- the class's table of the most heaps -/
def HpI (n t p q : Nat) (x g : Nat → Int32) (F : Nat → Nat) : Prop := F 0 = 0 ∧ (∀ r, r < t → bsum x n r = 0 → g r = nI (F r) ∧ F r ≤ r) ∧ (∀ s i, s < t → s ≠ 0 → bsum x n s = 0 → Lo s i → ∀ h, Sub' h s → h.testBit i = true → bsum x n h = 0 → hbN p q h + F (s ^^^ h) ≤ F s) ∧ ∀ s i, s < t → s ≠ 0 → bsum x n s = 0 → Lo s i → ∃ h, Sub' h s ∧ h.testBit i = true ∧ bsum x n h = 0 ∧ F s = hbN p q h + F (s ^^^ h)
theorem x_heaps {N : Nat} (hN : 20000 ≤ N) {S : St} {V : Vt} {x : Nat → Int32} {n p q : Nat} (hn : n ≤ 10) (hp : p < 1024) (hq : q < 1024) (hx : ∀ i, i < n → V.2.1 58 i = x i) (h59 : V.2.1 59 0 = nI 0) (h60 : V.2.1 60 0 = nI 0) :
    ∃ f, f 0 = nI 0 ∧ ((¬ bsum x n (2 ^ n - 1) = 0 ∧ f_X2_mostEven N S V 57 (nI n) (nI p) (nI q) = some (-1, pA V 59 f)) ∨ (bsum x n (2 ^ n - 1) = 0 ∧ ∃ g F, g 0 = nI 0 ∧ F (2 ^ n - 1) ≤ 1023 ∧ HpT n (2 ^ n - 1) (fun s => bsum x n s = 0) (hbN p q) F ∧ f_X2_mostEven N S V 57 (nI n) (nI p) (nI q) = some (nI (F (2 ^ n - 1)), pA (pA V 59 f) 60 g))) := by
  have p2 : 2 ^ n ≤ 1024 := (Nat.pow_le_pow_right (n := 2) (by omega) hn : 2 ^ n ≤ 2 ^ 10)
  have pos : 0 < 2 ^ n := Nat.two_pow_pos n
  have shl : (1 : Int32) <<< (nI n &&& 31) = nI (2 ^ n) := one_shl (by omega)
  obtain ⟨f, hf, k, en⟩ := x_sums (N := N) hN (S := S) (V := V) hn hx h59 (nI p) (nI q)
  have f0 : f 0 = nI 0 := by rw [hf 0 pos, bsum_0]; rfl
  refine ⟨f, f0, ?_⟩
  have e1 : f_X2_mostEven N S V 57 (nI n) (nI p) (nI q) = if f (2 ^ n - 1) = 0 then f_X2_mostEven_82 N S 57 N (pA V 59 f) (nI p) (nI q) (nI (2 ^ n - 1)) (1 : Int32) else some ((-1 : Int32), pA V 59 f) := by
    have a59 : (pA V 59 f).2.1 (57 + 2) (2 ^ n - 1) = f (2 ^ n - 1) := by
      show (pA V 59 f).2.1 59 (2 ^ n - 1) = _
      rw [pA_e]
    rw [en, f_X2_mostEven_3, if_pos (by rw [nI_L (by omega) (by omega)]; omega), shl, lj 1, pk_sub (by omega), pl_bd, pl_ck (by omega) (by omega), nI_cl (by omega), a59]
  rw [e1, hf (2 ^ n - 1) (by omega)]
  by_cases c : bsum x n (2 ^ n - 1) = 0
  · refine Or.inr ⟨c, ?_⟩
    rw [if_pos c]
    have e0 : pA V 59 f = pA (pA V 59 f) 60 (V.2.1 60) := by
      have := pA_self (pA V 59 f) 60
      rw [pA_n _ _ _ _ (by omega)] at this
      exact this.symm
    obtain ⟨g, ⟨-, hg0, F, hF⟩, le⟩ := lpE (fun k (g : Nat → Int32) t => f_X2_mostEven_82 N S 57 k (pA (pA V 59 f) 60 g) (nI p) (nI q) (nI (2 ^ n - 1)) t) (2 ^ n) (fun t g => 1 ≤ t ∧ g 0 = nI 0 ∧ ∃ F, HpI n t p q x g F) (by
      rintro t g ht ⟨t1, g0, F, F0, F1, F2, F3⟩
      obtain ⟨V2, hV2⟩ : ∃ V2, V2 = pA (pA V 59 f) 60 g := ⟨_, rfl⟩
      have a59 : ∀ r, r < 2 ^ n → V2.2.1 59 r = bsum x n r := fun r hr => by rw [hV2, pA_n _ _ _ _ (by omega), pA_e]; exact hf r hr
      have a60 : V2.2.1 60 = g := by rw [hV2, pA_e]
      have st : ∀ k, f_X2_mostEven_82 N S 57 (k + 1) V2 (nI p) (nI q) (nI (2 ^ n - 1)) (nI t) = if bsum x n t = 0 then ob1 (f_X2_mostIn N S V2 57 (nI t) (nI p) (nI q)) (fun r25 => bd (sA V2 60 t r25) (fun V28 => f_X2_mostEven_82 N S 57 k V28 (nI p) (nI q) (nI (2 ^ n - 1)) (nI (t + 1)))) else f_X2_mostEven_82 N S 57 k V2 (nI p) (nI q) (nI (2 ^ n - 1)) (nI (t + 1)) := fun k => by
        have a59' : V2.2.1 (57 + 2) t = bsum x n t := a59 t ht
        rw [f_X2_mostEven_82, if_neg (by rw [nI_T (by omega) (by omega)]; omega), pl_ck (by omega) (by omega), nI_cl (by omega), a59']
        unfold f_X2_mostEven_114
        rw [nI_1, pl_bd]
        by_cases z : bsum x n t = 0
        · rw [if_pos z, if_pos z]
          congr 1
          funext r
          rw [pl_ck (by omega) (by omega), pl_bd, pl_bd, pl_bd]
        · rw [if_neg z, if_neg z]
      by_cases z : bsum x n t = 0
      · obtain ⟨b, b0, b1, b2, b3⟩ := x_mostIn (N := N) hN (S := S) (V := V2) (p := p) (q := q) (F := F) hn ht (by omega) hp hq a59 z (fun r hr hz => by rw [a60]; exact F1 r (by omega) hz) F0
        refine ⟨upd g t (nI b), ⟨by omega, by rw [upd_n _ _ _ _ (by omega)]; exact g0, fun r => if r = t then b else F r, ?_⟩, fun k => ?_⟩
        · have Fo : ∀ r, r ≠ t → (fun r => if r = t then b else F r) r = F r := fun r hr => if_neg hr
          have Ft : (fun r => if r = t then b else F r) t = b := if_pos rfl
          refine ⟨by rw [Fo 0 (by omega)]; exact F0, fun r hr hz => ?_, fun s i hs s0 hz li h hh hi hb => ?_, fun s i hs s0 hz li => ?_⟩
          · by_cases e : r = t
            · rw [e, upd_e, Ft]; exact ⟨rfl, b0⟩
            · rw [upd_n _ _ _ _ e, Fo r e]; exact F1 r (by omega) hz
          · have l1 := xl hh (tb_ne hi)
            rw [Fo (s ^^^ h) (by omega)]
            by_cases e : s = t
            · rw [e, Ft]; rw [e] at li hh; exact b2 i h li hh hi hb
            · rw [Fo s e]; exact F2 s i (by omega) s0 hz li h hh hi hb
          · by_cases e : s = t
            · rw [e] at li
              obtain ⟨h, c1, c2, c3, c4⟩ := b3 i li
              have l1 := xl c1 (tb_ne c2)
              refine ⟨h, by rw [e]; exact c1, c2, c3, ?_⟩
              rw [e, Ft, Fo (t ^^^ h) (by omega)]; exact c4
            · obtain ⟨h, c1, c2, c3, c4⟩ := F3 s i (by omega) s0 hz li
              have l1 := xl c1 (tb_ne c2)
              refine ⟨h, c1, c2, c3, ?_⟩
              rw [Fo s e, Fo (s ^^^ h) (by omega)]; exact c4
        · show f_X2_mostEven_82 N S 57 (k + 1) (pA (pA V 59 f) 60 g) (nI p) (nI q) (nI (2 ^ n - 1)) (nI t) = f_X2_mostEven_82 N S 57 k (pA (pA V 59 f) 60 (upd g t (nI b))) (nI p) (nI q) (nI (2 ^ n - 1)) (nI (t + 1))
          rw [← hV2, st k, if_pos z, b1, pl_ob1, pl_bd, hV2, sA_pAe]
      · refine ⟨g, ⟨by omega, g0, F, F0, fun r hr hz => F1 r (by
          rcases (by omega : r < t ∨ r = t) with h | h
          · exact h
          · rw [h] at hz; exact absurd hz z) hz, fun s i hs s0 hz => F2 s i (by
          rcases (by omega : s < t ∨ s = t) with h | h
          · exact h
          · rw [h] at hz; exact absurd hz z) s0 hz, fun s i hs s0 hz => F3 s i (by
          rcases (by omega : s < t ∨ s = t) with h | h
          · exact h
          · rw [h] at hz; exact absurd hz z) s0 hz⟩, fun k => ?_⟩
        show f_X2_mostEven_82 N S 57 (k + 1) (pA (pA V 59 f) 60 g) (nI p) (nI q) (nI (2 ^ n - 1)) (nI t) = f_X2_mostEven_82 N S 57 k (pA (pA V 59 f) 60 g) (nI p) (nI q) (nI (2 ^ n - 1)) (nI (t + 1))
        rw [← hV2, st k, if_neg z]) (2 ^ n - 1) 1 (V.2.1 60) (by omega) ⟨by omega, h60, fun _ => 0, rfl, fun r hr _ => by
        have : r = 0 := by omega
        rw [this, h60]; exact ⟨rfl, Nat.le_refl _⟩, fun s i hs s0 => absurd (show s = 0 by omega) s0, fun s i hs s0 => absurd (show s = 0 by omega) s0⟩
    obtain ⟨F0, F1, F2, F3⟩ := hF
    refine ⟨g, F, hg0, ?_, ⟨F0, by omega, fun s i hs => F2 s i (by have := sb_le hs; omega), fun s i hs => F3 s i (by have := sb_le hs; omega)⟩, ?_⟩
    · have := (F1 (2 ^ n - 1) (by omega) c).2; omega
    · have le' := le (N - (2 ^ n - 1) - 1 + 1)
      rw [show N - (2 ^ n - 1) - 1 + 1 + (2 ^ n - 1) = N by omega] at le'
      have le2 : f_X2_mostEven_82 N S 57 N (pA V 59 f) (nI p) (nI q) (nI (2 ^ n - 1)) (1 : Int32) = f_X2_mostEven_82 N S 57 (N - (2 ^ n - 1) - 1 + 1) (pA (pA V 59 f) 60 g) (nI p) (nI q) (nI (2 ^ n - 1)) (nI (2 ^ n)) := by
        exact (congrArg (fun Z => f_X2_mostEven_82 N S 57 N Z (nI p) (nI q) (nI (2 ^ n - 1)) (1 : Int32)) e0).trans le'
      have a60 : (pA (pA V 59 f) 60 g).2.1 (57 + 3) (2 ^ n - 1) = nI (F (2 ^ n - 1)) := by
        show (pA (pA V 59 f) 60 g).2.1 60 (2 ^ n - 1) = _
        rw [pA_e]; exact (F1 _ (by omega) c).1
      rw [le2, f_X2_mostEven_82, if_pos (by rw [nI_T (by omega) (by omega)]; omega), pl_ck (by omega) (by omega), nI_cl (by omega), a60]
  · exact Or.inl ⟨c, by rw [if_neg c]⟩
end
