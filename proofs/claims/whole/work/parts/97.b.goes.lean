section
/-! orders: a clause gone along by the reference -/
theorem mS_f (M : Vt) (g : Nat) (b : Int32) (j : Nat) (x : Int32) (h1 : j ≠ 22) (h2 : j ≠ 24) : sF (mS M g b) 0 j x = mS (sF M 0 j x) g b := by
  unfold mS sF
  refine Prod.ext ?_ rfl
  funext h i
  simp only [up2]
  by_cases c : h = 0 ∧ i = j
  · simp only [if_pos c, if_neg (show ¬ (h = 0 ∧ i = 22) by omega), if_neg (show ¬ (h = 0 ∧ i = 24) by omega)]
  · simp only [if_neg c]
theorem mS_J (M : Vt) (g : Nat) (b : Int32) (h j : Nat) (x : Int64) : sJ (mS M g b) h j x = mS (sJ M h j x) g b := rfl
theorem mS_of (M : Vt) (g : Nat) : sF M 0 22 (nI g) = mS M g (M.1 0 24) := by
  unfold mS sF
  refine Prod.ext ?_ rfl
  funext h i
  simp only [up2]
  by_cases c : h = 0 ∧ i = 22
  · simp only [if_pos c]
  · by_cases d : h = 0 ∧ i = 24
    · obtain ⟨rfl, rfl⟩ := d; rfl
    · simp only [if_neg c, if_neg d]
def okS (sv : Nat → Option Int32) : Nat → Bool
  | 0 => true
  | k + 1 => okS sv k && (sv k).isSome
def GoG (M M' : Vt) : Prop := M'.2.1 = M.2.1 ∧ M'.2.2.2 = M.2.2.2 ∧ ∀ g j, ¬ (g = 0 ∧ j = 44) → M'.1 g j = M.1 g j
theorem GoG_t {M M1 M2 : Vt} (a : GoG M M1) (b : GoG M1 M2) : GoG M M2 := ⟨b.1.trans a.1, b.2.1.trans a.2.1, fun g j h => (b.2.2 g j h).trans (a.2.2 g j h)⟩
/-- what a token's reader needs of the memory -/
def Gst (K : Nat → Int32) (n : Nat) (dn lt : Int32) (M : Vt) : Prop := M.2.1 2 = K ∧ M.1 0 25 = nI 1 ∧ M.1 0 23 = nI (2400 + n) ∧ M.1 0 27 = dn ∧ M.1 0 28 = lt
theorem Gst_f {K : Nat → Int32} {n : Nat} {dn lt : Int32} {M : Vt} (h : Gst K n dn lt M) (j : Nat) (x : Int32) (hj : 42 ≤ j) : Gst K n dn lt (sF M 0 j x) := by
  obtain ⟨h1, h2, h3, h4, h5⟩ := h
  exact ⟨h1, by rw [sF_o _ _ _ _ _ _ (by omega)]; exact h2, by rw [sF_o _ _ _ _ _ _ (by omega)]; exact h3, by rw [sF_o _ _ _ _ _ _ (by omega)]; exact h4, by rw [sF_o _ _ _ _ _ _ (by omega)]; exact h5⟩
theorem Gst_g {K : Nat → Int32} {n : Nat} {dn lt : Int32} {M M' : Vt} (h : Gst K n dn lt M) (g : GoG M M') : Gst K n dn lt M' := by
  obtain ⟨h1, h2, h3, h4, h5⟩ := h
  exact ⟨by rw [g.1]; exact h1, by rw [g.2.2 _ _ (by omega)]; exact h2, by rw [g.2.2 _ _ (by omega)]; exact h3, by rw [g.2.2 _ _ (by omega)]; exact h4, by rw [g.2.2 _ _ (by omega)]; exact h5⟩
theorem Gst_X {N : Nat} {K T U W : Nat → Int32} {n : Nat} {dn lt : Int32} {M : Vt} (G : MXg N K n T U dn lt W) (h : Gst K n dn lt M) : MX N 1 M 2400 n T U W := G M h.1 h.2.1 h.2.2.1 h.2.2.2.1 h.2.2.2.2
def LvS (sv : Nat → Option Int32) (l : Int32) (k : Nat) (M : Vt) : Prop := l = nI 1 → M.1 0 44 = bI (okS sv k) ∧ ∀ j, j < k → ∀ x, sv j = some x → M.2.2.1 23 j = x.toInt64
theorem m_g89 {N : Nat} (hN : 20000 ≤ N) {K T U W : Nat → Int32} {n : Nat} {dn lt : Int32} (G : MXg N K n T U dn lt W) (hn : n ≤ 400) {p : Nat → Nat} {sv : Nat → Option Int32} {m : Nat} (hm : m ≤ 3) (hme : ∀ k, k < m → ME 1 0 T U n W (if k = 0 then p 0 else p k + 1) (p (k + 1)) 27 (sv k)) {l : Int32} (hl : l = nI 0 ∨ l = nI 1) :
    ∀ d k q M b, k + d = m → d < q → Gst K n dn lt M → p k < 1000 → LvS sv l k M → ∃ M' b' q', GoG M M' ∧ LvS sv l m M' ∧ f_X9_goesAlong_89 N q (mS M (2400 + p k) b) l (nI m) (nI k) = f_X9_goesAlong_89 N (q' + 1) (mS M' (2400 + p m) b') l (nI m) (nI m) := by
  intro d
  induction d with
  | zero =>
    intro k q M b hk hq hG hp hL
    have e : k = m := by omega
    subst e
    exact ⟨M, b, q - 1, ⟨rfl, rfl, fun _ _ _ => rfl⟩, hL, by rw [show q - 1 + 1 = q by omega]⟩
  | succ d ih =>
    intro k q M b hk hq hG hp hL
    have X := Gst_X G hG
    have me := hme k (by omega)
    obtain ⟨y, b1, ey, oy⟩ := me.2 N M 2400 40 hN X (by omega) l (nI 0) ⟨hl, Or.inl rfl⟩
    have mel := me.1
    have b01 := (OUT_b (show lv l (nI 0) from ⟨hl, Or.inl rfl⟩) oy).2
    obtain ⟨s0, hs0⟩ : ∃ s0, s0 = if M.1 0 44 = nI 0 then nI 0 else if b1 = nI 0 then nI 1 else nI 0 := ⟨_, rfl⟩
    obtain ⟨M1, hM1⟩ : ∃ M1, M1 = sF (sJ M 23 k y) 0 44 s0 := ⟨_, rfl⟩
    have gg : GoG M M1 := by
      rw [hM1]
      exact ⟨rfl, rfl, fun g j h => by rw [sF_o _ _ _ _ _ _ h]; rfl⟩
    have L1 : LvS sv l (k + 1) M1 := by
      intro h1
      obtain ⟨q1, q2⟩ := hL h1
      have j1 : M1.1 0 44 = s0 := by rw [hM1, sF_e, upd_e]
      have j2 : ∀ j, M1.2.2.1 23 j = if j = k then y else M.2.2.1 23 j := fun j => by
        rw [hM1]
        show up2 M.2.2.1 23 k y 23 j = _
        unfold up2
        by_cases c : j = k
        · rw [if_pos ⟨rfl, c⟩, if_pos c]
        · rw [if_neg (fun h => c h.2), if_neg c]
      rcases oy with ⟨-, -, ⟨x, hx, hy, hb⟩ | ⟨hx, hb⟩⟩ | ⟨h | h, -⟩
      · refine ⟨?_, fun j hj z hz => ?_⟩
        · rw [j1, hs0, q1, okS, hx, hb]
          cases okS sv k <;> rfl
        · rw [j2]
          by_cases c : j = k
          · rw [if_pos c, hy]
            rw [c, hx] at hz
            cases hz; rfl
          · rw [if_neg c]; exact q2 j (by omega) z hz
      · refine ⟨?_, fun j hj z hz => ?_⟩
        · rw [j1, hs0, q1, okS, hx, hb]
          cases okS sv k <;> rfl
        · rw [j2]
          by_cases c : j = k
          · rw [c, hx] at hz; cases hz
          · rw [if_neg c]; exact q2 j (by omega) z hz
      · rw [h1] at h; exact absurd h (by decide)
      · exact absurd h (by decide)
    have m3 := hme k (by omega)
    obtain ⟨M', b', q', g2, l2, e2⟩ := ih (k + 1) (q - 1) M1 b1 (by omega) (by omega) (Gst_g hG gg) (by have := mel.2; omega) L1
    refine ⟨M', b', q', GoG_t gg g2, l2, ?_⟩
    rw [← e2]
    have body : ∀ g, g = (if k = 0 then p 0 else p k + 1) → f_X9_goesAlong_110 N (f_X9_goesAlong_89 N (q - 1)) (mS M (2400 + g) b) l (nI m) (nI k) = f_X9_goesAlong_89 N (q - 1) (mS M1 (2400 + p (k + 1)) b1) l (nI m) (nI (k + 1)) := by
      intro g hg
      unfold f_X9_goesAlong_110
      have k44 : (mS (sJ M 23 k y) (2400 + p (k + 1)) b1).1 0 44 = M.1 0 44 := rfl
      have fin : ∀ s, s = s0 → f_X9_goesAlong_147 N (f_X9_goesAlong_89 N (q - 1)) (mS (sJ M 23 k y) (2400 + p (k + 1)) b1) l (nI m) (nI k) s = f_X9_goesAlong_89 N (q - 1) (mS M1 (2400 + p (k + 1)) b1) l (nI m) (nI (k + 1)) := by
        intro s hs
        unfold f_X9_goesAlong_147
        have c01 : s = nI 0 ∨ s = nI 1 := by
          rw [hs, hs0]
          by_cases c : M.1 0 44 = nI 0
          · rw [if_pos c]; exact Or.inl rfl
          · rw [if_neg c]
            by_cases c2 : b1 = nI 0
            · rw [if_pos c2]; exact Or.inr rfl
            · rw [if_neg c2]; exact Or.inl rfl
        have cbs : ∀ z : Option Vt, cb s z = z := fun z => by rcases c01 with h | h <;> rw [h] <;> rfl
        rw [cbs, mS_f _ _ _ _ _ (by omega) (by omega), pl_bd, nI_1, pl_bd, hM1, hs]
      rw [show (0 : Int32) = nI 0 from rfl, mS_b, pl_bd, hg, ey, pl_ob, pl_ck (by omega) (by omega), nI_cl (by omega), mS_J, pl_bd, k44, mS_24]
      unfold f_X9_goesAlong_146
      by_cases c : M.1 0 44 = nI 0
      · rw [if_pos c]; exact fin _ (by rw [hs0, if_pos c]; rfl)
      · rw [if_neg c]
        by_cases c2 : b1 = nI 0
        · rw [if_pos c2]; exact fin _ (by rw [hs0, if_neg c, if_pos c2]; rfl)
        · rw [if_neg c2]; exact fin _ (by rw [hs0, if_neg c, if_neg c2]; rfl)
    have e89 : f_X9_goesAlong_89 N q (mS M (2400 + p k) b) l (nI m) (nI k) = if nI k ≤ 0 then f_X9_goesAlong_110 N (f_X9_goesAlong_89 N (q - 1)) (mS M (2400 + p k) b) l (nI m) (nI k) else f_X9_goesAlong_110 N (f_X9_goesAlong_89 N (q - 1)) (mS M (2400 + (p k + 1)) b) l (nI m) (nI k) := by
      obtain ⟨q2, rfl⟩ : ∃ q2, q = q2 + 1 := ⟨q - 1, by omega⟩
      rw [f_X9_goesAlong_89, if_neg (by rw [nI_L (by omega) (by omega)]; omega), mS_22, nI_1, mS_g, pl_bd]; rfl
    rw [e89]
    by_cases c : k = 0
    · rw [if_pos (by rw [c]; decide)]
      exact body (p k) (by rw [if_pos c, c])
    · rw [if_neg (show ¬ nI k ≤ 0 by rw [show (0 : Int32) = nI 0 from rfl, nI_L (by omega) (by omega)]; omega)]
      exact body (p k + 1) (by rw [if_neg c])
theorem m_224 {N : Nat} (M : Vt) (g : Nat) (b s0 : Int32) (h : s0 = nI 0 ∨ s0 = nI 1) : f_X9_goesAlong_224 N (mS M g b) s0 = some (mS (sF (sF M 0 45 s0) 0 45 (if s0 = nI 0 then nI 0 else if b = nI 0 then nI 1 else nI 0)) (g + 1) b) := by
  have r : ∀ s, s = nI 0 ∨ s = nI 1 → f_X9_goesAlong_247 N (mS (sF M 0 45 s0) g b) s = some (mS (sF (sF M 0 45 s0) 0 45 s) (g + 1) b) := by
    intro s hs
    unfold f_X9_goesAlong_247
    have cbs : ∀ z : Option Vt, cb s z = z := fun z => by rcases hs with h | h <;> rw [h] <;> rfl
    rw [cbs, mS_f _ _ _ _ _ (by omega) (by omega), pl_bd, mS_22, nI_1, mS_g, pl_bd]
  unfold f_X9_goesAlong_224
  have cbs : ∀ z : Option Vt, cb s0 z = z := fun z => by rcases h with h | h <;> rw [h] <;> rfl
  have k45 : (mS (sF M 0 45 s0) g b).1 0 45 = s0 := rfl
  rw [cbs, mS_f _ _ _ _ _ (by omega) (by omega), pl_bd, k45, mS_24]
  unfold f_X9_goesAlong_246
  by_cases c : s0 = nI 0
  · rw [if_pos (show s0 = 0 from c), if_pos c]; exact r _ (Or.inl rfl)
  · rw [if_neg (show ¬ s0 = 0 from c), if_neg c]
    by_cases d : b = nI 0
    · rw [if_pos (show b = 0 from d), if_pos d]; exact r _ (Or.inr rfl)
    · rw [if_neg (show ¬ b = 0 from d), if_neg d]; exact r _ (Or.inl rfl)
/-- the end of a clause: how often, its test -/
theorem m_gend {N : Nat} (hN : 20000 ≤ N) {K T U W : Nat → Int32} {n : Nat} {dn lt : Int32} (G : MXg N K n T U dn lt W) (hn : n ≤ 400) {x : Int32} {e f u : Nat} (he : e ≤ n) (hf : f ≤ n) (hx : TMo x T U n e f) {tv : Option Bool} (ht : (¬ ctk T n f = nI 5 ∧ u = f ∧ tv = some true) ∨ (ctk T n f = nI 5 ∧ MT 1 0 T U n W (f + 1) u 36 tv)) {l : Int32} (hl : l = nI 0 ∨ l = nI 1) {M : Vt} (hG : Gst K n dn lt M) (b : Int32) (q m : Nat) (hm : m ≤ 3) :
    ∃ M', f_X9_goesAlong_89 N (q + 1) (mS M (2400 + e) b) l (nI m) (nI m) = some M' ∧ M'.2 = M.2 ∧ (∀ g j, ¬ (g = 0 ∧ (j = 22 ∨ j = 24 ∨ j = 42 ∨ j = 45)) → M'.1 g j = M.1 g j) ∧ M'.1 0 22 = nI (2400 + (u + 1)) ∧ M'.1 0 42 = x ∧ (l = nI 1 → M'.1 0 45 = if tv = some true then nI 1 else nI 0) := by
  -- the test
  have tst : ∀ M0, Gst K n dn lt M0 → ∀ b0, ∃ b2 s0 s1, f_X9_goesAlong_197 N (mS M0 (2400 + f) b0) l = some (mS (sF (sF M0 0 45 s0) 0 45 s1) (2400 + (u + 1)) b2) ∧ (l = nI 1 → s1 = if tv = some true then nI 1 else nI 0) := by
    intro M0 hG0 b0
    have X := Gst_X G hG0
    have pa := m_pass X (nI 0) f (by omega) (nI 5)
    unfold f_X9_goesAlong_197
    rw [show (0 : Int32) = nI 0 from rfl, mS_b, pl_bd, show (5 : Int32) = nI 5 from rfl, pa]
    rcases ht with ⟨h1, h2, h3⟩ | ⟨h1, mt⟩
    · refine ⟨nI 0, nI 1, nI 1, ?_, fun _ => by rw [h3, if_pos rfl]⟩
      rw [if_neg h1, pl_ob, if_pos (show nI 0 = nI 0 from rfl)]
      unfold f_X9_goesAlong_219
      rw [show (1 : Int32) = nI 1 from rfl, m_224 M0 _ _ _ (Or.inr rfl), if_neg (by decide), if_pos rfl, h2]; rfl
    · obtain ⟨r, b', er, o⟩ := mt.2 N M0 2400 40 hN X (by omega) l (nI 0) ⟨hl, Or.inl rfl⟩
      refine ⟨b', r, if r = nI 0 then nI 0 else if b' = nI 0 then nI 1 else nI 0, ?_, fun h => ?_⟩
      · rw [if_pos h1, pl_ob, if_neg (by decide), er, pl_ob]
        unfold f_X9_goesAlong_219
        rcases o.1 with h0 | h0
        · rw [h0, if_pos rfl, m_224 M0 _ _ _ (Or.inl rfl)]; rfl
        · rw [h0, if_neg (by decide), show (1 : Int32) = nI 1 from rfl, m_224 M0 _ _ _ (Or.inr rfl)]; rfl
      · rcases o.2 with ⟨-, -, ⟨z, rfl, hr, hb⟩ | ⟨rfl, hb⟩⟩ | ⟨h' | h', -⟩
        · rw [hr, hb]
          cases z <;> rfl
        · rw [hb]
          rcases o.1 with h0 | h0 <;> rw [h0] <;> rfl
        · rw [h] at h'; exact absurd h' (by decide)
        · exact absurd h' (by decide)
  have fin : ∀ x0 b0, Gst K n dn lt (sF M 0 42 (nI 1)) → ∃ b2 s0 s1, f_X9_goesAlong_197 N (mS (sF (sF M 0 42 (nI 1)) 0 42 x0) (2400 + f) b0) l = some (mS (sF (sF (sF (sF M 0 42 (nI 1)) 0 42 x0) 0 45 s0) 0 45 s1) (2400 + (u + 1)) b2) ∧ (l = nI 1 → s1 = if tv = some true then nI 1 else nI 0) := fun x0 b0 hg => tst _ (Gst_f hg 42 x0 (by omega)) b0
  have hG1 := Gst_f hG 42 (nI 1) (by omega)
  have X1 := Gst_X G hG1
  have pa := m_pass X1 b e (by omega) (nI 29)
  rw [f_X9_goesAlong_89, if_pos (by rw [nI_L (by omega) (by omega)]; omega), show (1 : Int32) = nI 1 from rfl, mS_f _ _ _ _ _ (by omega) (by omega), pl_bd, show (29 : Int32) = nI 29 from rfl, pa]
  rcases hx with ⟨h1, h2, h3⟩ | ⟨h1, h2, h3, tm, h4, h5, h6, h7⟩
  · obtain ⟨b2, s0, s1, e1, e2⟩ := fin (nI 1) b hG1
    have idem : sF (sF M 0 42 (nI 1)) 0 42 (nI 1) = sF M 0 42 (nI 1) := by
      unfold sF
      refine Prod.ext ?_ rfl
      funext h i
      simp only [up2]
      by_cases c : h = 0 ∧ i = 42
      · simp only [if_pos c]
      · simp only [if_neg c]
    rw [idem] at e1
    refine ⟨mS (sF (sF (sF M 0 42 (nI 1)) 0 45 s0) 0 45 s1) (2400 + (u + 1)) b2, ?_, rfl, fun g j h => ?_, rfl, ?_, fun h => ?_⟩
    · rw [if_neg h1, pl_ob, if_pos (show nI 0 = 0 from rfl), ← h2]; exact e1
    · rw [mS_o _ _ _ _ _ (by omega) (by omega), sF_o _ _ _ _ _ _ (by omega), sF_o _ _ _ _ _ _ (by omega), sF_o _ _ _ _ _ _ (by omega)]
    · rw [h3]; rfl
    · show s1 = _; exact e2 h
  · obtain ⟨b2, s0, s1, e1, e2⟩ := fin (nI tm) b hG1
    have cc : ctk T n e = nI 29 := by unfold ctk; rw [if_pos (by omega)]; exact h1
    have uu : (mS (sF M 0 42 (nI 1)) (2400 + (e + 1)) b).2.1 2 (2915 + (2400 + (e + 1))) = nI tm := by rw [← h4]; exact X1.2.2.1 (e + 1) h2
    refine ⟨mS (sF (sF (sF (sF M 0 42 (nI 1)) 0 42 (nI tm)) 0 45 s0) 0 45 s1) (2400 + (u + 1)) b2, ?_, rfl, fun g j h => ?_, rfl, ?_, fun h => ?_⟩
    · rw [if_pos cc, pl_ob, if_neg (by decide), mS_22, lj 2915, nI_add, pl_ck (by omega) (by omega), nI_cl (by omega), uu, mS_f _ _ _ _ _ (by omega) (by omega), pl_bd, mS_22, nI_add, mS_g, pl_bd, show 2400 + (e + 1) + 1 = 2400 + f by omega]
      exact e1
    · rw [mS_o _ _ _ _ _ (by omega) (by omega), sF_o _ _ _ _ _ _ (by omega), sF_o _ _ _ _ _ _ (by omega), sF_o _ _ _ _ _ _ (by omega), sF_o _ _ _ _ _ _ (by omega)]
    · rw [h7]; rfl
    · show s1 = _; exact e2 h
def GoF (M M' : Vt) : Prop := M'.2.1 = M.2.1 ∧ M'.2.2.2 = M.2.2.2 ∧ ∀ g j, ¬ (g = 0 ∧ (22 ≤ j ∧ j ≤ 25 ∨ 42 ≤ j ∧ j ≤ 45)) → M'.1 g j = M.1 g j
def mkn (kd : Nat) : Nat := if kd = 0 then 2 else if kd = 1 then 3 else if kd = 2 then 1 else 0
def hdc (kd : Nat) : Nat := if kd = 0 then 22 else if kd = 1 then 24 else if kd = 2 then 27 else 28
theorem m_goes {N : Nat} (hN : 20000 ≤ N) {K T U W : Nat → Int32} {n : Nat} {dn lt : Int32} (G : MXg N K n T U dn lt W) (hn : n ≤ 400) {kd t e f u : Nat} (hk : kd < 4) (htn : t < n) (he : e ≤ n) (hf : f ≤ n) (hT : T t = nI (hdc kd)) {p : Nat → Nat} {sv : Nat → Option Int32} (p0 : p 0 = t + 1) (pm : p (mkn kd) = e) (hme : ∀ k, k < mkn kd → ME 1 0 T U n W (if k = 0 then p 0 else p k + 1) (p (k + 1)) 27 (sv k)) {x : Int32} (hx : TMo x T U n e f) {tv : Option Bool} (ht : (¬ ctk T n f = nI 5 ∧ u = f ∧ tv = some true) ∨ (ctk T n f = nI 5 ∧ MT 1 0 T U n W (f + 1) u 36 tv)) {l : Int32} (hl : l = nI 0 ∨ l = nI 1) {M : Vt} (h2 : M.2.1 2 = K) (h27 : M.1 0 27 = dn) (h28 : M.1 0 28 = lt) (h41 : M.1 0 41 = nI (2400 + t)) :
    ∃ M', f_X9_goesAlong N M (nI (2400 + n)) l = some M' ∧ GoF M M' ∧ M'.1 0 22 = nI (2400 + (u + 1)) ∧ M'.1 0 42 = x ∧ M'.1 0 43 = nI (hdc kd) ∧ (l = nI 1 → M'.1 0 44 = bI (okS sv (mkn kd)) ∧ (∀ j, j < mkn kd → ∀ y, sv j = some y → M'.2.2.1 23 j = y.toInt64) ∧ M'.1 0 45 = if tv = some true then nI 1 else nI 0) := by
  have hm3 : mkn kd ≤ 3 := by
    unfold mkn
    split
    · omega
    · split
      · omega
      · split <;> omega
  obtain ⟨Ma, hMa⟩ : ∃ Ma, Ma = sF (sF M 0 25 (nI 1)) 0 23 (nI (2400 + n)) := ⟨_, rfl⟩
  have ga : Gst K n dn lt Ma := by
    rw [hMa]
    exact ⟨h2, rfl, rfl, h27, h28⟩
  have a24 : ∀ g j, ¬ (g = 0 ∧ (j = 23 ∨ j = 25)) → Ma.1 g j = M.1 g j := fun g j h => by rw [hMa, sF_o _ _ _ _ _ _ (by omega), sF_o _ _ _ _ _ _ (by omega)]
  have X := Gst_X G ga
  have ca := m_codeAt X (2400 + t) (Ma.1 0 24) t (by omega)
  rw [ctk, if_pos htn, hT] at ca
  obtain ⟨Mb, hMb⟩ : ∃ Mb, Mb = sF (sF Ma 0 43 (nI (hdc kd))) 0 44 (nI 1) := ⟨_, rfl⟩
  have gb : Gst K n dn lt Mb := by rw [hMb]; exact Gst_f (Gst_f ga 43 _ (by omega)) 44 _ (by omega)
  have b43 : Mb.1 0 43 = nI (hdc kd) := by rw [hMb]; rfl
  have b44 : Mb.1 0 44 = nI 1 := by rw [hMb]; rfl
  obtain ⟨M1, b1, q1, g1, l1, e1⟩ := m_g89 hN G hn hm3 hme hl (mkn kd) 0 N Mb (Ma.1 0 24) (by omega) (by omega) gb (by omega) (fun _ => ⟨b44, fun j hj => absurd hj (Nat.not_lt_zero j)⟩)
  obtain ⟨M2, e2, f2, fr, m22, m42, m45⟩ := m_gend hN G hn he hf hx ht hl (Gst_g gb g1) b1 q1 (mkn kd) hm3
  have body : f_X9_goesAlong_85 N (mS Mb (2400 + (t + 1)) (Ma.1 0 24)) l (nI (mkn kd)) = some M2 := by
    unfold f_X9_goesAlong_85
    rw [show (0 : Int32) = nI 0 from rfl, ← p0, e1, pm, e2]
  refine ⟨M2, ?_, ⟨by rw [f2]; exact g1.1.trans (by rw [hMb, hMa]; rfl), by rw [f2]; exact g1.2.1.trans (by rw [hMb, hMa]; rfl), fun g j h => ?_⟩, m22, m42, ?_, fun h => ?_⟩
  · unfold f_X9_goesAlong
    have v41 : Ma.1 0 41 = nI (2400 + t) := by rw [a24 _ _ (by omega)]; exact h41
    have k43 : (mS Mb (2400 + (t + 1)) (Ma.1 0 24)).1 0 43 = nI (hdc kd) := by rw [mS_o _ _ _ _ _ (by omega) (by omega)]; exact b43
    rw [pl_bd, pl_bd, show (1 : Int32) = nI 1 from rfl, ← hMa, v41, mS_of, pl_bd, mS_22, ca, pl_ob1, mS_f _ _ _ _ _ (by omega) (by omega), pl_bd, mS_22, nI_add, mS_g, pl_bd, mS_f _ _ _ _ _ (by omega) (by omega), pl_bd, ← hMb, show 2400 + t + 1 = 2400 + (t + 1) by omega, k43]
    rcases (by omega : kd = 0 ∨ kd = 1 ∨ kd = 2 ∨ kd = 3) with rfl | rfl | rfl | rfl
    · rw [if_neg (by decide), if_neg (by decide), if_pos (show nI (hdc 0) = 22 from rfl)]; exact body
    · rw [if_neg (by decide), if_neg (by decide), if_neg (by decide)]; exact body
    · rw [if_neg (by decide), if_pos (show nI (hdc 2) = 27 from rfl)]; exact body
    · rw [if_pos (show nI (hdc 3) = 28 from rfl)]; exact body
  · rw [fr g j (by omega), g1.2.2 g j (by omega), hMb, sF_o _ _ _ _ _ _ (by omega), sF_o _ _ _ _ _ _ (by omega), a24 g j (by omega)]
  · rw [fr 0 43 (by omega), g1.2.2 0 43 (by omega)]; exact b43
  · obtain ⟨q1, q2⟩ := l1 h
    refine ⟨by rw [fr 0 44 (by omega)]; exact q1, fun j hj y hy => ?_, m45 h⟩
    rw [f2]; exact q2 j hj y hy
end
