section
theorem ofS_int {e su : Nat → Int32} {s : Nat} (hs : s < 10) (he : ∀ i, i < 25 → rg (e i) 999) (hsu : ∀ i, i < 10 → rg (su i) 9999) : -4995 ≤ (ofS e su s).toInt ∧ (ofS e su s).toInt ≤ 9999 := by
  obtain ⟨y, hy, ey⟩ := hsu s hs
  have key : ∀ a b c d f : Nat, a < 25 → b < 25 → c < 25 → d < 25 → f < 25 → -4995 ≤ (su s - (e a + e b + e c + e d + e f)).toInt ∧ (su s - (e a + e b + e c + e d + e f)).toInt ≤ 9999 := by
    intro a b c d f ha hb hc hd hf
    obtain ⟨x1, h1, e1⟩ := he a ha
    obtain ⟨x2, h2, e2⟩ := he b hb
    obtain ⟨x3, h3, e3⟩ := he c hc
    obtain ⟨x4, h4, e4⟩ := he d hd
    obtain ⟨x5, h5, e5⟩ := he f hf
    rw [ey, e1, e2, e3, e4, e5, nI_add, nI_add, nI_add, nI_add, pk_sub_toInt (by omega) (by omega)]
    omega
  unfold ofS
  by_cases h5 : s < 5
  · rw [if_pos h5]; exact key _ _ _ _ _ (by omega) (by omega) (by omega) (by omega) (by omega)
  · rw [if_neg h5]; exact key _ _ _ _ _ (by omega) (by omega) (by omega) (by omega) (by omega)
theorem MNV_i {x : Int32} (h : -1000000000 ≤ x.toInt) : x ≠ MNV := fun q => by
  rw [q] at h
  have e : MNV.toInt = -2000000000 := rfl
  omega
theorem rg_ne {x : Int32} {m : Nat} (h : rg x m) (hm : m < 1000000000) : x ≠ MNV := by
  obtain ⟨n, hn, rfl⟩ := h
  exact MNV_ne n (by omega)
theorem lw_r {p : Int32} (h : p = -1 ∨ rg p 5) : p ≠ MNV := by
  rcases h with rfl | h
  · decide
  · exact rg_ne h (by omega)
def lstv (f : Nat → Option Int32) : Nat → Option Int32
  | 0 => none
  | k + 1 => (f k).elim (lstv f k) some
def chX (o : Nat) (V V' : Vt) : Prop := V'.2.2 = V.2.2 ∧ (∀ g, g ≠ o + 2 → g ≠ o + 3 → V'.2.1 g = V.2.1 g) ∧ ∀ g j, ¬ (g = o + 1 ∧ j = 1) → V'.1 g j = V.1 g j
def chM (M M' : Vt) : Prop := M'.2.2 = M.2.2 ∧ (∀ g, g ≠ 12 → M'.2.1 g = M.2.1 g) ∧ ∀ g j, ¬ (g = 0 ∧ 22 ≤ j ∧ j ≤ 25) → M'.1 g j = M.1 g j
theorem chX_r (o : Nat) (V : Vt) : chX o V V := ⟨rfl, fun _ _ _ => rfl, fun _ _ _ => rfl⟩
theorem chX_t {o : Nat} {V V1 V2 : Vt} (a : chX o V V1) (b : chX o V1 V2) : chX o V V2 := ⟨b.1.trans a.1, fun g h1 h2 => (b.2.1 g h1 h2).trans (a.2.1 g h1 h2), fun g j h => (b.2.2 g j h).trans (a.2.2 g j h)⟩
theorem chM_r (M : Vt) : chM M M := ⟨rfl, fun _ _ => rfl, fun _ _ _ => rfl⟩
theorem chM_t {M M1 M2 : Vt} (a : chM M M1) (b : chM M1 M2) : chM M M2 := ⟨b.1.trans a.1, fun g h1 => (b.2.1 g h1).trans (a.2.1 g h1), fun g j h => (b.2.2 g j h).trans (a.2.2 g j h)⟩
/-- the parts of a book that a law looks at -/
def BkR (V : Vt) (a1 : Nat) (K : Nat → Int32) : Prop := bE (V.2.1 (a1 + 1)) K ∧ bS (V.2.1 (a1 + 3)) K ∧ bK (V.2.1 (a1 + 4)) K ∧ bT (V.2.1 (a1 + 6)) K ∧ bC (V.1 a1 9) K
def clK (V : Vt) (a1 : Nat) (p : Int32) : Prop := p = -1 ∨ ∃ k n, k < n ∧ n ≤ 5 ∧ p = nI k ∧ V.1 a1 9 = nI n
theorem tell {N : Nat} (hN : 20000 ≤ N) {S : St} {V M : Vt} {o a1 q i : Nat} (ha : a1 + 9 < o) (ho : o + 3 < 64) (hq : 64 ≤ q) (hs : S.2.2.1 (o + 3) = 10) (hB : BkR V a1 (M.2.1 2)) (hi : i < 6) (hf : M.2.1 2 107 = nI i) (hX : TX XL S V q (M.2.1 2) i) {c : Nat} (hc : c < 25) {p : Int32} (hp : clK V a1 p) {hd : Nat} (hhd : hd < 4) (high wo : Nat) :
    ∃ v V' M', (∀ x, v = some x → x ≠ MNV) ∧ f_X6_lastTold_t N S V o a1 q (nI hd) (nI c) p = some (v.getD MNV, V') ∧ f_X9_tells N M (nI (hd + 1)) p (nI c) (nI high) (nI wo) = some ((tcl hd high (nI wo).toInt64 v).toInt32, M') ∧ chX o V V' ∧ chM M M' := by
  obtain ⟨b1, b2, b3, b4, b5⟩ := hB
  -- the clerk's keen
  obtain ⟨kn, k1, k2, k3⟩ : ∃ kn, ((f_X0_hasClerk N S V a1 p = some (nI 0) ∧ kn = -1) ∨ ∃ k, k < 5 ∧ p = nI k ∧ f_X0_hasClerk N S V a1 p = some (nI 1) ∧ kn = V.2.1 (a1 + 4) k) ∧ ((p = -1 ∧ kn = -1) ∨ ∃ k, k < 5 ∧ p = nI k ∧ kn = M.2.1 2 (42 + k)) ∧ (kn = -1 ∨ rg kn 9) := by
    rcases hp with rfl | ⟨k, n, hk, hn, rfl, en⟩
    · refine ⟨-1, Or.inl ⟨?_, rfl⟩, Or.inl ⟨rfl, rfl⟩, Or.inl rfl⟩
      unfold f_X0_hasClerk
      rw [if_pos (by decide)]; rfl
    · refine ⟨V.2.1 (a1 + 4) k, Or.inr ⟨k, by omega, rfl, ?_, rfl⟩, Or.inr ⟨k, by omega, rfl, (b3 k (by omega)).1⟩, Or.inr (by rw [(b3 k (by omega)).1]; exact (b3 k (by omega)).2)⟩
      unfold f_X0_hasClerk
      rw [en, if_neg (nI_pos (by omega)), if_neg (by rw [nI_L (by omega) (by omega)]; omega)]; rfl
  obtain ⟨f, ef, hfw⟩ := x_fillW hN S V o a1 c ha hc p kn k1
  obtain ⟨g, eg, hgw⟩ := m_asked hN M c hc p kn k2
  have e25 : ∀ i, i < 25 → V.2.1 (a1 + 1) i = M.2.1 2 i := fun i hi => (b1 i hi).1
  have wEq : ∀ i, i < 10 → wcF (V.2.1 (a1 + 1)) (V.2.1 (a1 + 3)) (V.2.1 (a1 + 6)) c p kn i = wcF (M.2.1 2) (fun j => M.2.1 2 (32 + j)) (fun j => if j = 0 then M.2.1 2 31 else M.2.1 2 102) c p kn i := by
    intro i hi
    rcases (by omega : i = 0 ∨ i = 1 ∨ i = 2 ∨ i = 3 ∨ i = 4 ∨ i = 5 ∨ i = 6 ∨ i = 7 ∨ i = 8 ∨ i = 9) with rfl | rfl | rfl | rfl | rfl | rfl | rfl | rfl | rfl | rfl
    · rfl
    · rfl
    · rfl
    · exact e25 c hc
    · exact ofS_c (e := M.2.1 2) (t := fun j => M.2.1 2 (32 + j)) (e' := V.2.1 (a1 + 1)) (t' := V.2.1 (a1 + 3)) (s := c / 5) (by omega) e25 (b2 (c / 5) (by omega)).1
    · exact ofS_c (e := M.2.1 2) (t := fun j => M.2.1 2 (32 + j)) (e' := V.2.1 (a1 + 1)) (t' := V.2.1 (a1 + 3)) (s := 5 + c % 5) (by omega) e25 (b2 (5 + c % 5) (by omega)).1
    · rfl
    · rfl
    · exact b4.1.1
    · exact b4.2.2.1
  obtain ⟨W, hWd⟩ : ∃ W : Nat → Int32, W = fun i => if i < 10 then f i else 0 := ⟨_, rfl⟩
  have hWf : ∀ i, i < 10 → W i = f i := fun i hi => by rw [hWd]; exact if_pos hi
  have hWB : WB W := by
    intro i
    rw [hWd]
    show (if i < 10 then f i else 0) ≠ MNV
    by_cases h10 : i < 10
    · rw [if_pos h10, hfw i h10, wEq i h10]
      rcases (by omega : i = 0 ∨ i = 1 ∨ i = 2 ∨ i = 3 ∨ i = 4 ∨ i = 5 ∨ i = 6 ∨ i = 7 ∨ i = 8 ∨ i = 9) with rfl | rfl | rfl | rfl | rfl | rfl | rfl | rfl | rfl | rfl
      · exact MNV_ne c (by omega)
      · exact MNV_ne (c / 5) (by omega)
      · exact MNV_ne (c % 5) (by omega)
      · exact rg_ne (b1 c hc).2 (by omega)
      · exact MNV_i (by have := (ofS_int (s := c / 5) (by omega) (fun i hi => (b1 i hi).2) (fun i hi => (b2 i hi).2)).1; show -1000000000 ≤ (ofS (M.2.1 2) (fun j => M.2.1 2 (32 + j)) (c / 5)).toInt; omega)
      · exact MNV_i (by have := (ofS_int (s := 5 + c % 5) (by omega) (fun i hi => (b1 i hi).2) (fun i hi => (b2 i hi).2)).1; show -1000000000 ≤ (ofS (M.2.1 2) (fun j => M.2.1 2 (32 + j)) (5 + c % 5)).toInt; omega)
      · show p ≠ MNV
        rcases hp with rfl | ⟨k, n, hk, hn, rfl, en⟩
        · decide
        · exact MNV_ne k (by omega)
      · show kn ≠ MNV
        rcases k3 with rfl | h
        · decide
        · exact rg_ne h (by omega)
      · exact rg_ne b4.1.2 (by omega)
      · exact rg_ne b4.2.2.2 (by omega)
    · rw [if_neg h10]; decide
  obtain ⟨n, cnt, st, ⟨n400, esz, cnt1, cnt12, ecount, ecl, elc⟩, st0, stn, hcl⟩ := hX
  have H : ∀ k, ∃ v : Option Int32, k < cnt → ∃ u, st (k + 1) = u + 1 ∧ st k < n ∧ u ≤ n ∧ (∀ x, v = some x → x ≠ MNV) ∧
      (∀ (S : St) (V1 : Vt) (o a1 q' : Nat) (m : Nat), TCx S V1 o q' (S.2.2.1 (q' + 1)) cnt W → S.2.2.1 (q' + 1) = S.2.2.1 (q' + 1) → True) ∧
      (∀ (V1 : Vt) (m : Nat), TCx S V1 o q (S.2.2.1 (q + 1)) cnt W → V1.2.1 (q + 1) = V.2.1 (q + 1) → V1.2.1 (q + 2) = V.2.1 (q + 2) → ∃ V', MSt (o + 1) V1 V' 0 ∧ f_X6_lastTold_t_24 N S o a1 q (m + 1) V1 (nI hd) (nI k) = v.elim (f_X6_lastTold_t_24 N S o a1 q m V' (nI hd) (nI k + -1)) (fun x => some (x, V'))) ∧
      (∀ (M1 : Vt) (base m high : Nat) (told : Int64) (b : Int32), MX N 0 M1 base n (tk (M.2.1 2) 115 i) (tk (M.2.1 2) 2915 i) W → ∃ b', (b' = nI 0 ∨ b' = nI 1) ∧ f_X9_tells_69 N (m + 1) (mS M1 (base + st k) b) (nI (hd + 1)) (nI high) told = f_X9_tells_69 N m (mS M1 (base + (u + 1)) b') (nI (hd + 1)) (nI high) (tcl hd high told v)) := by
    intro k
    by_cases hk : k < cnt
    · obtain ⟨u, L, eu⟩ := hcl k hk
      obtain ⟨v, h1, h2, h3⟩ := j_clause hN hk hWB L hd hhd
      exact ⟨v, fun _ => ⟨u, eu, L.1.1, L.1.2, h1, fun _ _ _ _ _ _ _ _ => trivial, fun V1 m t e1 e2 => h2 S V1 o a1 q m t e1 e2, h3⟩⟩
    · exact ⟨none, fun h => absurd h hk⟩
  obtain ⟨vf, hvf⟩ := Classical.skolem.mp H
  have hne : ∀ k, k ≤ cnt → ∀ x, lstv vf k = some x → x ≠ MNV := by
    intro k
    induction k with
    | zero => intro _ x hx; cases hx
    | succ k ih =>
      intro hk x hx
      obtain ⟨u, -, -, -, h1, -⟩ := hvf k (by omega)
      have hx' : (vf k).elim (lstv vf k) some = some x := hx
      cases hv : vf k with
      | none => rw [hv] at hx'; exact ih (by omega) x hx'
      | some y =>
        rw [hv] at hx'
        have e2 : some y = some x := hx'
        rw [e2] at hv
        exact h1 x hv
  have xl : ∀ k, k ≤ cnt → ∀ (V1 : Vt) (m : Nat), k < m → TCx S V1 o q (S.2.2.1 (q + 1)) cnt W → V1.2.1 (q + 1) = V.2.1 (q + 1) → V1.2.1 (q + 2) = V.2.1 (q + 2) → ∃ V', MSt (o + 1) V1 V' 0 ∧ f_X6_lastTold_t_24 N S o a1 q m V1 (nI hd) (nI k + -1) = some ((lstv vf k).getD MNV, V') := by
    intro k
    induction k with
    | zero =>
      intro _ V1 m hm _ _ _
      obtain ⟨m', rfl⟩ : ∃ m', m = m' + 1 := ⟨m - 1, by omega⟩
      refine ⟨V1, MSt_r _ V1 0, ?_⟩
      rw [f_X6_lastTold_t_24, if_pos (by decide)]
      rfl
    | succ k ih =>
      intro hk V1 m hm t e1 e2
      obtain ⟨m', rfl⟩ : ∃ m', m = m' + 1 := ⟨m - 1, by omega⟩
      obtain ⟨u, -, -, -, -, -, hx, -⟩ := hvf k (by omega)
      obtain ⟨V2, m2, e3⟩ := hx V1 m' t e1 e2
      have ik : nI (k + 1) + -1 = nI k := by rw [show (-1 : Int32) = -nI 1 from rfl, nI_ng (by omega)]; rfl
      rw [ik, e3]
      show ∃ V', MSt (o + 1) V1 V' 0 ∧ (vf k).elim (f_X6_lastTold_t_24 N S o a1 q m' V2 (nI hd) (nI k + -1)) (fun x => some (x, V2)) = some (((vf k).elim (lstv vf k) some).getD MNV, V')
      cases vf k with
      | none =>
        obtain ⟨V3, m3, e4⟩ := ih (by omega) V2 m' (by omega) (TCx_m t m2) (by rw [m2.2.1 _ (by omega), e1]) (by rw [m2.2.1 _ (by omega), e2])
        exact ⟨V3, MSt_t m2 m3 (Nat.le_refl 0), e4⟩
      | some y => exact ⟨V2, m2, rfl⟩
  -- the class
  have hV2 : (pA V (o + 3) f).1 q 2 = nI cnt := ecount
  have T0 : TCx S (pA V (o + 3) f) o q (S.2.2.1 (q + 1)) cnt W := ⟨⟨ho, hq⟩, ⟨hs, rfl, elc, ecl, cnt12⟩, fun i hi => by rw [pA_e, hWf i hi]⟩
  obtain ⟨V', mv, ex⟩ := xl cnt (Nat.le_refl cnt) (pA V (o + 3) f) N (by omega) T0 (pA_n _ _ _ _ (by omega)) (pA_n _ _ _ _ (by omega))
  -- the reference
  obtain ⟨M0, hM0⟩ : ∃ M0, M0 = sF (sF (sF (pA M 12 g) 0 25 (nI 0)) 0 22 (nI (400 * i))) 0 23 (nI (400 * i + n)) := ⟨_, rfl⟩
  have M02 : M0.2.1 2 = M.2.1 2 := by rw [hM0]; exact pA_n _ _ _ _ (by omega)
  have MX0 : MX N 0 M0 (400 * i) n (tk (M.2.1 2) 115 i) (tk (M.2.1 2) 2915 i) W := by
    refine ⟨⟨by rw [hM0]; rfl, by rw [hM0]; rfl, by omega, n400⟩, fun j hj => ?_, fun j hj => ?_, Or.inl ⟨rfl, fun k hk => ?_⟩⟩
    · show M0.2.1 2 (115 + (400 * i + j)) = (if j < 400 then M.2.1 2 (115 + 400 * i + j) else 0)
      rw [M02, if_pos (by omega), Nat.add_assoc]
    · show M0.2.1 2 (2915 + (400 * i + j)) = (if j < 400 then M.2.1 2 (2915 + 400 * i + j) else 0)
      rw [M02, if_pos (by omega), Nat.add_assoc]
    · have : M0.2.1 12 = g := by rw [hM0]; exact pA_e _ _ _
      have hw : wl k < 10 := by
        rcases (by omega : k = 0 ∨ k = 1 ∨ k = 2 ∨ k = 3 ∨ k = 4 ∨ k = 5 ∨ k = 6 ∨ k = 7 ∨ k = 8 ∨ k = 9) with rfl | rfl | rfl | rfl | rfl | rfl | rfl | rfl | rfl | rfl <;> decide
      rw [this, hgw k hk, hWf _ hw, hfw _ hw, wEq _ hw]
  obtain ⟨bb, hbb⟩ : ∃ bb, bb = M0.1 0 24 := ⟨_, rfl⟩
  have ml : ∀ k, k ≤ cnt → 1 ≤ k → ∃ b', f_X9_tells_69 N N M0 (nI (hd + 1)) (nI high) (nI wo).toInt64 = f_X9_tells_69 N (N - k) (mS M0 (400 * i + st k) b') (nI (hd + 1)) (nI high) (tcl hd high (nI wo).toInt64 (lstv vf k)) ∧ (b' = nI 0 ∨ b' = nI 1) := by
    intro k
    induction k with
    | zero => intro _ h; omega
    | succ k ih =>
      intro hk _
      obtain ⟨u, eu, -, -, -, -, -, hm⟩ := hvf k (by omega)
      have stp : ∀ (told : Int64) (v : Option Int32), (told = tcl hd high (nI wo).toInt64 v) → tcl hd high told (vf k) = tcl hd high (nI wo).toInt64 ((vf k).elim v some) := by
        intro told v ht
        rw [ht]
        cases vf k <;> rfl
      rcases Nat.eq_zero_or_pos k with h0 | h0
      · subst h0
        have z : M0 = mS M0 (400 * i + st 0) (M0.1 0 24) := by rw [st0, mS_id]; rw [hM0]; rfl; rfl
        obtain ⟨b', hb', e'⟩ := hm M0 (400 * i) (N - 1) high (nI wo).toInt64 (M0.1 0 24) MX0
        rw [show N - 1 + 1 = N by omega, ← z] at e'
        refine ⟨b', ?_, hb'⟩
        rw [e', eu]
        congr 1
        exact stp _ none rfl
      · obtain ⟨b1, e1, hb1⟩ := ih (by omega) h0
        obtain ⟨b', hb', e'⟩ := hm M0 (400 * i) (N - (k + 1)) high (tcl hd high (nI wo).toInt64 (lstv vf k)) b1 MX0
        rw [show N - (k + 1) + 1 = N - k by omega] at e'
        refine ⟨b', ?_, hb'⟩
        rw [e1, e', eu, stp _ _ rfl]
        rfl
  obtain ⟨b', em, hb'⟩ := ml cnt (Nat.le_refl cnt) cnt1
  refine ⟨lstv vf cnt, V', mS M0 (400 * i + st cnt) b', hne cnt (Nat.le_refl cnt), ?_, ?_, ?_, ?_⟩
  · unfold f_X6_lastTold_t
    rw [ef, pl_obv, pl_bd, hV2, Int32.sub_eq_add_neg]
    exact ex
  · unfold f_X9_tells
    have q1 : ∀ (a : Vt), a.2.1 2 107 = nI i → True := fun _ _ => trivial
    have nm : ¬ nI i = (-1 : Int32) := fun q => by have := congrArg Int32.toInt q; rw [nI_tz (by omega)] at this; have e : (-1 : Int32).toInt = -1 := rfl; omega
    have p2 : (pA M 12 g).2.1 2 = M.2.1 2 := pA_n _ _ _ _ (by omega)
    have esz' : M.2.1 2 (108 + i) = nI n := esz
    simp (disch := omega) only [hf, ↓pl_bd, pl_ob, pl_ob1, pl_obv, pl_oa, pl_oav, pl_cg, pl_cb0, pl_cb1, pl_nl0, pl_nls, li, nI_cl, pl_ck, nI_E, nI_L, nI_T, nI_add, pk_mul, Nat.zero_add, Nat.add_zero, Nat.reduceAdd, Nat.reduceMul, Nat.reduceSub, Nat.reduceEqDiff, Nat.reduceLeDiff, Nat.reduceLT, ↓reduceIte]
    rw [if_neg (show ¬ nI i = -nI 1 from nm), eg, pl_obv]
    simp (disch := omega) only [sF_2, p2, hf, esz', sF_e, upd_e, ↓pl_bd, pl_ob, pl_ob1, pl_obv, pl_oa, pl_oav, pl_cg, pl_cb0, pl_cb1, pl_nl0, pl_nls, li, nI_cl, pl_ck, nI_E, nI_L, nI_T, nI_add, pk_mul, Nat.zero_add, Nat.add_zero, Nat.reduceAdd, Nat.reduceMul, Nat.reduceSub, Nat.reduceEqDiff, Nat.reduceLeDiff, Nat.reduceLT, ↓reduceIte]
    rw [← hM0, em]
    obtain ⟨m, hm⟩ : ∃ m, N - cnt = m + 1 := ⟨N - cnt - 1, by omega⟩
    rw [hm, f_X9_tells_69, mS_23, mS_22, MX0.1.2.1, stn, if_pos (by rw [nI_L (by omega) (by omega)]; omega)]
  · refine ⟨mv.1, fun g h1 h2 => (mv.2.1 g (by omega)).trans (pA_n _ _ _ _ h2), fun g j h => (mv.2.2.1 g j (by omega)).trans rfl⟩
  · refine ⟨by rw [mS_2, hM0]; rfl, fun h hh => by rw [mS_2, hM0]; exact pA_n _ _ _ _ hh, fun h j hh => ?_⟩
    rw [mS_o _ _ _ _ _ (by omega) (by omega), hM0, sF_o _ _ _ _ _ _ (by omega), sF_o _ _ _ _ _ _ (by omega), sF_o _ _ _ _ _ _ (by omega)]
    rfl
end
