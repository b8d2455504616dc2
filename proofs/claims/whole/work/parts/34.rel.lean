/-! The relation between the memory of the class and that of the reference -/
abbrev TxP : Type := (Nat → Int32) → Nat → (Nat → Int32) → Nat → Int32 → Int32 → (Nat → Int32) → (Nat → Int32) → Nat → Prop
def rg (x : Int32) (m : Nat) : Prop := ∃ n : Nat, n ≤ m ∧ x = nI n
def tk (K : Nat → Int32) (a t : Nat) : Nat → Int32 := fun k => if k < 400 then K (a + 400 * t + k) else 0
def bE (e K : Nat → Int32) : Prop := ∀ i, i < 25 → e i = K i ∧ rg (K i) 999
def bF (fe K : Nat → Int32) : Prop := ∃ F : Nat, F < 33554432 ∧ K 30 = nI F ∧ ∀ i, i < 25 → fe i = nI (F / 2 ^ i % 2)
def bS (su K : Nat → Int32) : Prop := ∀ i, i < 10 → su i = K (32 + i) ∧ rg (K (32 + i)) 9999
def bK (ke K : Nat → Int32) : Prop := ∀ i, i < 5 → ke i = K (42 + i) ∧ rg (K (42 + i)) 9
def bH (ha K : Nat → Int32) : Prop := ∀ i, i < 5 → ha i = K (25 + i) ∧ rg (K (25 + i)) 9999
def bT (te K : Nat → Int32) : Prop := (te 0 = K 31 ∧ rg (K 31) 999) ∧ (te 1 = K 101 ∧ rg (K 101) 10) ∧ (te 2 = K 102 ∧ rg (K 102) 9)
def bZ (c : Int32) (si K : Nat → Int32) : Prop := (∀ i, i < 24 → si i = K (47 + i)) ∧ c = K 104 ∧ ∃ n : Nat, n ≤ 8 ∧ K 104 = nI n ∧ ∀ i, i < n → rg (K (47 + 3 * i)) 24 ∧ rg (K (48 + 3 * i)) 99 ∧ rg (K (49 + 3 * i)) 25
def bP (c : Int32) (pa K : Nat → Int32) : Prop := (∀ i, i < 30 → pa i = K (71 + i)) ∧ c = K 105 ∧ ∃ n : Nat, n ≤ 10 ∧ K 105 = nI n ∧ ∀ i, i < n → ∃ a b s : Nat, (a < 5 ∧ b < 5 ∧ a ≠ b ∧ 1 ≤ s ∧ s ≤ 999) ∧ K (71 + 3 * i) = nI a ∧ K (72 + 3 * i) = nI b ∧ K (73 + 3 * i) = nI s
def bC (c : Int32) (K : Nat → Int32) : Prop := c = K 103 ∧ rg (K 103) 5
def BkA (f e fe su ke ha te si pa K : Nat → Int32) : Prop := bE e K ∧ bF fe K ∧ bS su K ∧ bK ke K ∧ bH ha K ∧ bT te K ∧ bZ (f 12) si K ∧ bP (f 13) pa K ∧ bC (f 9) K
def TH (S : St) (im : Nat → Nat) (q : Nat) : Prop := 64 ≤ q ∧ tshB S q = true ∧ ∀ k p, k < 2 → im k = p + 1 → (q + 3 ≤ p ∨ p + 10 ≤ q)
def TX (X : TxP) (S : St) (V : Vt) (q : Nat) (K : Nat → Int32) (i : Nat) : Prop := X (V.2.1 (q + 1)) (S.2.2.1 (q + 1)) (V.2.1 (q + 2)) (S.2.2.1 (q + 2)) (V.1 q 2) (K (108 + i)) (tk K 115 i) (tk K 2915 i) i
def BkL (X : TxP) (S : St) (V : Vt) (im : Nat → Nat) (f : Nat → Int32) (la : Nat → Nat) (K : Nat → Int32) : Prop := f 10 = K 106 ∧ f 11 = K 107 ∧ ∃ n : Nat, n ≤ 6 ∧ K 106 = nI n ∧ (K 107 = -1 ∨ ∃ j : Nat, j < n ∧ K 107 = nI j) ∧ (∀ i, i < 6 → la i = 0 ∨ ∃ q, la i = q + 1 ∧ TH S im q) ∧ ∀ i, i < n → ∃ q, la i = q + 1 ∧ TX X S V q K i
def IM (X : TxP) (S : St) (V : Vt) (im : Nat → Nat) (hi I : Nat → Int32) (k : Nat) : Prop := (im k = 0 ∧ hi k = nI 0) ∨ ∃ q, im k = q + 1 ∧ hi k = nI 1 ∧ 64 ≤ q ∧ shpB S q t0 = true ∧ BkA (V.1 q) (V.2.1 (q + 1)) (V.2.1 (q + 2)) (V.2.1 (q + 3)) (V.2.1 (q + 4)) (V.2.1 (q + 5)) (V.2.1 (q + 6)) (V.2.1 (q + 8)) (V.2.1 (q + 9)) (fun j => I (5715 * k + j)) ∧ BkL X S V im (V.1 q) (V.2.2.2 (q + 7)) (fun j => I (5715 * k + j))
def Ims (X : TxP) (S : St) (V : Vt) (im : Nat → Nat) (hi I : Nat → Int32) : Prop := IM X S V im hi I 0 ∧ IM X S V im hi I 1 ∧ ∀ p r, im 0 = p + 1 → im 1 = r + 1 → (p + 10 ≤ r ∨ r + 10 ≤ p)
def dRg (A : Nat → Int32) : Prop := (∀ k, k < 25 → rg (A k) 999) ∧ (∀ k, k < 5 → rg (A (25 + k)) 9999) ∧ (∃ F : Nat, F < 33554432 ∧ A 30 = nI F) ∧ rg (A 31) 999
def dOne (r M A : Nat → Int32) (kd : Int32) : Prop := dRg A ∧ r 0 = kd ∧
  ((kd = nI 0 ∧ ∃ a b : Nat, a < 25 ∧ b < 5 ∧ r 1 = nI a ∧ r 2 = nI b ∧ A a = M a + r 3 ∧ r 4 = A (25 + b) ∧ ∀ k, k < 32 → k ≠ a → k ≠ 25 + b → A k = M k)
  ∨ (kd = nI 1 ∧ ∃ a b : Nat, a < 25 ∧ b < 25 ∧ a ≠ b ∧ r 1 = nI a ∧ r 2 = nI b ∧ A a = M a + r 3 ∧ A b = M b - r 3 ∧ ∀ k, k < 32 → k ≠ a → k ≠ b → A k = M k)
  ∨ (kd = nI 2 ∧ ∃ a : Nat, a < 25 ∧ r 1 = nI a ∧ A 30 = M 30 ^^^ ((1 : Int32) <<< (nI a &&& 31)) ∧ ∀ k, k < 32 → k ≠ 30 → A k = M k)
  ∨ (kd = nI 3 ∧ A 31 = M 31 - 1 ∧ ∀ k, k < 31 → A k = M k))
def Dd (n1 n2 : Int32) (R L K : Nat → Int32) : Prop := ∃ n : Nat, n ≤ 16 ∧ n1 = nI n ∧ n2 = nI n ∧ ∀ j, j < n → dOne (fun k => R (5 * j + k)) (fun k => if j + 1 = n then K k else L (33 * (j + 1) + k)) (fun k => L (33 * j + k)) (L (33 * j + 32))
def Tp (n1 n2 : Int32) (t u : Nat → Int32) : Prop := ∃ n : Nat, n ≤ 400 ∧ n1 = nI n ∧ n2 = nI n ∧ ∀ i, i < n → ∃ b : Nat, b < 256 ∧ t i = nI b ∧ u i = sb_b b
def Rf (s1 s2 : Int32) (r u : Nat → Int32) : Prop := s1 = s2 ∧ r 0 = u 1 ∧ r 1 = u 2 ∧ r 2 = u 3 ∧ r 3 = u 5 ∧ r 4 = u 6
def Pp (c1 c2 : Int32) (e h u : Nat → Int32) : Prop := (c1 = nI 0 ∧ c2 = -1) ∨ ∃ n : Nat, 1 ≤ n ∧ n ≤ 5 ∧ c1 = nI n ∧ c2 = nI n ∧ (∀ i, i < 25 → e i = u i) ∧ ∀ i, i < 5 → h i = u (25 + i)
def Ms (a1 a2 b1 b2 c1 c2 : Int32) : Prop := a1 = a2 ∧ b1 = b2 ∧ c1 = c2
def wdL : List Int32 := [108, 101, 97, 100, 115, 32, 116, 97, 107, 101, 115, 32, 98, 105, 116, 101, 115, 32, 98, 97, 114, 115, 32, 105, 102, 32, 111, 114, 32, 97, 110, 100, 32, 110, 111, 116, 32, 99, 101, 108, 108, 32, 114, 111, 119, 32, 99, 111, 108, 117, 109, 110, 32, 99, 108, 101, 114, 107, 32, 107, 101, 101, 110, 32, 109, 111, 111, 100, 32, 101, 110, 116, 114, 121, 32, 111, 102, 102, 32, 97, 99, 114, 111, 115, 115, 32, 100, 97, 121, 32, 100, 111, 110, 101, 32, 108, 97, 116, 101, 115, 116, 32, 104, 97, 110, 100, 32, 116, 97, 107, 101, 32, 98, 121, 32, 115, 104, 105, 102, 116, 32, 116, 111, 32, 111, 102, 32, 102, 101, 110, 99, 101, 32, 112, 97, 115, 115, 32, 116, 105, 109, 101, 115, 32]
def Wq (w : Nat → Int32) : Prop := ∀ i, i < 144 → w i = wdL.getD i 0
/-- heaps: the empty heap's rows are never put -/
def Hz (a b : Nat → Int32) : Prop := a 0 = nI 0 ∧ b 0 = nI 0
def ShX (b0 : Nat) (S : St) : Prop := shp S 0 t8 ∧ S.2.2.2.2 = adX b0 S.1 ∧ 64 ≤ S.1
def Rel (X : TxP) (b0 : Nat) (S : St) (V M : Vt) : Prop :=
  ShX b0 S ∧ BkA (V.1 1) (V.2.1 2) (V.2.1 3) (V.2.1 4) (V.2.1 5) (V.2.1 6) (V.2.1 7) (V.2.1 9) (V.2.1 10) (M.2.1 2) ∧ BkL X S V (V.2.2.2 11) (V.1 1) (V.2.2.2 8) (M.2.1 2) ∧ Ims X S V (V.2.2.2 11) (M.2.1 4) (M.2.1 3) ∧ Dd (V.1 32 1) (M.1 0 31) (V.2.1 33) (M.2.1 13) (M.2.1 2) ∧ Tp (V.1 0 15) (M.1 0 13) (V.2.1 36) (M.2.1 7) ∧ Rf (V.1 0 18) (M.1 0 0) (V.2.1 63) (M.2.1 1) ∧ Pp (V.1 22 9) (M.1 0 48) (V.2.1 23) (V.2.1 27) (M.2.1 24) ∧ Ms (V.1 0 16) (M.1 0 6) (V.1 0 17) (M.1 0 40) (V.1 37 8) (M.1 0 14) ∧ Wq (M.2.1 6) ∧ Hz (V.2.1 59) (V.2.1 60)
/-! what each piece rests on -/
theorem bE_c {e K K' : Nat → Int32} (h : ∀ i, i < 25 → K' i = K i) (b : bE e K) : bE e K' := fun i hi => by rw [h i hi]; exact b i hi
theorem bF_c {e K K' : Nat → Int32} (h : K' 30 = K 30) (b : bF e K) : bF e K' := by
  obtain ⟨F, h1, h2, h3⟩ := b
  exact ⟨F, h1, h.trans h2, h3⟩
theorem bS_c {e K K' : Nat → Int32} (h : ∀ i, i < 10 → K' (32 + i) = K (32 + i)) (b : bS e K) : bS e K' := fun i hi => by rw [h i hi]; exact b i hi
theorem bK_c {e K K' : Nat → Int32} (h : ∀ i, i < 5 → K' (42 + i) = K (42 + i)) (b : bK e K) : bK e K' := fun i hi => by rw [h i hi]; exact b i hi
theorem bH_c {e K K' : Nat → Int32} (h : ∀ i, i < 5 → K' (25 + i) = K (25 + i)) (b : bH e K) : bH e K' := fun i hi => by rw [h i hi]; exact b i hi
theorem bT_c {e K K' : Nat → Int32} (h : K' 31 = K 31) (h1 : K' 101 = K 101) (h2 : K' 102 = K 102) (b : bT e K) : bT e K' := by
  unfold bT; rw [h, h1, h2]; exact b
theorem bZ_c {c : Int32} {e K K' : Nat → Int32} (h : ∀ i, i < 24 → K' (47 + i) = K (47 + i)) (h1 : K' 104 = K 104) (b : bZ c e K) : bZ c e K' := by
  obtain ⟨a, a1, n, hn, a2, a3⟩ := b
  refine ⟨fun i hi => (a i hi).trans (h i hi).symm, a1.trans h1.symm, n, hn, h1.trans a2, fun i hi => ?_⟩
  have := a3 i hi
  rw [h (3 * i) (by omega), show 48 + 3 * i = 47 + (3 * i + 1) by omega, h (3 * i + 1) (by omega), show 49 + 3 * i = 47 + (3 * i + 2) by omega, h (3 * i + 2) (by omega), show 47 + (3 * i + 1) = 48 + 3 * i by omega, show 47 + (3 * i + 2) = 49 + 3 * i by omega]
  exact this
theorem bP_c {c : Int32} {e K K' : Nat → Int32} (h : ∀ i, i < 30 → K' (71 + i) = K (71 + i)) (h1 : K' 105 = K 105) (b : bP c e K) : bP c e K' := by
  obtain ⟨a, a1, n, hn, a2, a3⟩ := b
  refine ⟨fun i hi => (a i hi).trans (h i hi).symm, a1.trans h1.symm, n, hn, h1.trans a2, fun i hi => ?_⟩
  obtain ⟨x, y, s, hh, e1, e2, e3⟩ := a3 i hi
  refine ⟨x, y, s, hh, (h (3 * i) (by omega)).trans e1, ?_, ?_⟩
  · rw [show 72 + 3 * i = 71 + (3 * i + 1) by omega, h (3 * i + 1) (by omega), show 71 + (3 * i + 1) = 72 + 3 * i by omega]; exact e2
  · rw [show 73 + 3 * i = 71 + (3 * i + 2) by omega, h (3 * i + 2) (by omega), show 71 + (3 * i + 2) = 73 + 3 * i by omega]; exact e3
theorem bC_c {c : Int32} {K K' : Nat → Int32} (h : K' 103 = K 103) (b : bC c K) : bC c K' := by unfold bC; rw [h]; exact b
theorem dOne_c {r M M' A : Nat → Int32} {kd : Int32} (h : ∀ k, k < 32 → M' k = M k) (b : dOne r M A kd) : dOne r M' A kd := by
  obtain ⟨h0, h1, h2⟩ := b
  refine ⟨h0, h1, ?_⟩
  rcases h2 with ⟨e, a, b, ha, hb, e1, e2, e3, e4, e5⟩ | ⟨e, a, b, ha, hb, hab, e1, e2, e3, e4, e5⟩ | ⟨e, a, ha, e1, e2, e3⟩ | ⟨e, e1, e2⟩
  · exact Or.inl ⟨e, a, b, ha, hb, e1, e2, by rw [h a (by omega)]; exact e3, e4, fun k hk h1 h2 => by rw [h k hk]; exact e5 k hk h1 h2⟩
  · exact Or.inr (Or.inl ⟨e, a, b, ha, hb, hab, e1, e2, by rw [h a (by omega)]; exact e3, by rw [h b (by omega)]; exact e4, fun k hk h1 h2 => by rw [h k hk]; exact e5 k hk h1 h2⟩)
  · exact Or.inr (Or.inr (Or.inl ⟨e, a, ha, e1, by rw [h 30 (by omega)]; exact e2, fun k hk h1 => by rw [h k hk]; exact e3 k hk h1⟩))
  · exact Or.inr (Or.inr (Or.inr ⟨e, by rw [h 31 (by omega)]; exact e1, fun k hk => by rw [h k (by omega)]; exact e2 k hk⟩))
theorem Dd_c {n1 n2 : Int32} {R L K K' : Nat → Int32} (h : ∀ k, k < 32 → K' k = K k) (b : Dd n1 n2 R L K) : Dd n1 n2 R L K' := by
  obtain ⟨n, hn, e1, e2, h3⟩ := b
  refine ⟨n, hn, e1, e2, fun j hj => dOne_c (fun k hk => ?_) (h3 j hj)⟩
  by_cases hjn : j + 1 = n
  · simp only [if_pos hjn]; exact h k hk
  · simp only [if_neg hjn]
theorem Dd_0 (R L K : Nat → Int32) : Dd (nI 0) (nI 0) R L K := ⟨0, by omega, rfl, rfl, fun j hj => absurd hj (Nat.not_lt_zero j)⟩
/-- the texts and images stay -/
def G6o (V V' : Vt) : Prop := ∀ h, 64 ≤ h → V'.1 h = V.1 h ∧ V'.2.1 h = V.2.1 h ∧ V'.2.2.2 h = V.2.2.2 h
def G64 (V V' : Vt) : Prop := ∀ h, (64 ≤ h ∨ h = 59 ∨ h = 60) → V'.1 h = V.1 h ∧ V'.2.1 h = V.2.1 h ∧ V'.2.2.2 h = V.2.2.2 h
theorem G64_o {V V' : Vt} (a : G64 V V') : G6o V V' := fun h hh => a h (Or.inl hh)
theorem G64_r (V : Vt) : G64 V V := fun _ _ => ⟨rfl, rfl, rfl⟩
theorem G64_t {V V' V2 : Vt} (a : G64 V V') (b : G64 V' V2) : G64 V V2 := fun h hh => ⟨(b h hh).1.trans (a h hh).1, (b h hh).2.1.trans (a h hh).2.1, (b h hh).2.2.trans (a h hh).2.2⟩
theorem G64_A {V V' : Vt} (a : G64 V V') {h j : Nat} {x : Int32} (hh : h < 64 ∧ h ≠ 59 ∧ h ≠ 60) : G64 V (sA V' h j x) := G64_t a (fun g hg => ⟨rfl, sA_n _ _ _ _ _ (by omega), rfl⟩)
theorem G64_F {V V' : Vt} (a : G64 V V') {h j : Nat} {x : Int32} (hh : h < 64 ∧ h ≠ 59 ∧ h ≠ 60) : G64 V (sF V' h j x) := G64_t a (fun g hg => ⟨sF_n _ _ _ _ _ (by omega), rfl, rfl⟩)
theorem G64_J {V V' : Vt} (a : G64 V V') {h j : Nat} {x : Int64} : G64 V (sJ V' h j x) := G64_t a (fun g hg => ⟨rfl, rfl, rfl⟩)
theorem tk_c {K K' : Nat → Int32} {a t : Nat} (h : ∀ k, k < 400 → K' (a + 400 * t + k) = K (a + 400 * t + k)) : tk K' a t = tk K a t := by
  funext k
  unfold tk
  by_cases hk : k < 400
  · rw [if_pos hk, if_pos hk, h k hk]
  · rw [if_neg hk, if_neg hk]
theorem TX_c {X : TxP} {S : St} {V V' : Vt} {q i : Nat} {K K' : Nat → Int32} (h1 : V'.1 q = V.1 q) (h2 : V'.2.1 (q + 1) = V.2.1 (q + 1)) (h3 : V'.2.1 (q + 2) = V.2.1 (q + 2)) (h4 : K' (108 + i) = K (108 + i)) (h5 : ∀ k, k < 400 → K' (115 + 400 * i + k) = K (115 + 400 * i + k)) (h6 : ∀ k, k < 400 → K' (2915 + 400 * i + k) = K (2915 + 400 * i + k)) (b : TX X S V q K i) : TX X S V' q K' i := by
  unfold TX
  rw [h1, h2, h3, h4, tk_c h5, tk_c h6]
  exact b
theorem BkL_c {X : TxP} {S : St} {V V' : Vt} {im : Nat → Nat} {f f' : Nat → Int32} {la : Nat → Nat} {K K' : Nat → Int32} (hf : f' 10 = f 10) (hg : f' 11 = f 11) (hv : ∀ q, TH S im q → V'.1 q = V.1 q ∧ V'.2.1 (q + 1) = V.2.1 (q + 1) ∧ V'.2.1 (q + 2) = V.2.1 (q + 2)) (hk : ∀ j, 106 ≤ j → j < 5715 → K' j = K j) (b : BkL X S V im f la K) : BkL X S V' im f' la K' := by
  obtain ⟨e1, e2, n, hn, e3, e4, e5, e6⟩ := b
  have k1 := hk 106 (by omega) (by omega)
  have k2 := hk 107 (by omega) (by omega)
  refine ⟨by rw [hf, e1, k1], by rw [hg, e2, k2], n, hn, k1.trans e3, by rw [k2]; exact e4, e5, fun i hi => ?_⟩
  obtain ⟨q, hq, ht⟩ := e6 i hi
  have hq2 : TH S im q := by
    rcases e5 i (by omega) with h | ⟨q', h, ht⟩
    · rw [h] at hq; cases hq
    · rw [h] at hq; cases hq; exact ht
  obtain ⟨a1, a2, a3⟩ := hv q hq2
  exact ⟨q, hq, TX_c a1 a2 a3 (hk _ (by omega) (by omega)) (fun k hk2 => hk _ (by omega) (by omega)) (fun k hk2 => hk _ (by omega) (by omega)) ht⟩
theorem BkL_g {X : TxP} {S : St} {V V' : Vt} {im : Nat → Nat} {f f' : Nat → Int32} {la : Nat → Nat} {K K' : Nat → Int32} (hf : f' 10 = f 10) (hg : f' 11 = f 11) (hv : G6o V V') (hk : ∀ j, 106 ≤ j → j < 5715 → K' j = K j) (b : BkL X S V im f la K) : BkL X S V' im f' la K' :=
  BkL_c hf hg (fun q hq => ⟨(hv q hq.1).1, (hv (q + 1) (Nat.le_succ_of_le hq.1)).2.1, (hv (q + 2) (Nat.le_trans hq.1 (by omega))).2.1⟩) hk b
theorem IM_g {X : TxP} {S : St} {V V' : Vt} {im : Nat → Nat} {hi I : Nat → Int32} {k : Nat} (hv : G6o V V') (b : IM X S V im hi I k) : IM X S V' im hi I k := by
  rcases b with h | ⟨q, e1, e2, h1, h2, h3, h4⟩
  · exact Or.inl h
  · refine Or.inr ⟨q, e1, e2, h1, h2, ?_, ?_⟩
    · rw [(hv q h1).1, (hv (q + 1) (by omega)).2.1, (hv (q + 2) (by omega)).2.1, (hv (q + 3) (by omega)).2.1, (hv (q + 4) (by omega)).2.1, (hv (q + 5) (by omega)).2.1, (hv (q + 6) (by omega)).2.1, (hv (q + 8) (by omega)).2.1, (hv (q + 9) (by omega)).2.1]
      exact h3
    · rw [(hv q h1).1, (hv (q + 7) (by omega)).2.2]
      exact BkL_g rfl rfl hv (fun _ _ _ => rfl) h4
theorem Ims_g {X : TxP} {S : St} {V V' : Vt} {im : Nat → Nat} {hi I : Nat → Int32} (hv : G6o V V') (b : Ims X S V im hi I) : Ims X S V' im hi I := ⟨IM_g hv b.1, IM_g hv b.2.1, b.2.2⟩
/-- what is left to show where laws and images stay -/
theorem Rel_of {X : TxP} {b0 : Nat} {S : St} {V M V' M' : Vt} (hR : Rel X b0 S V M) (g : G64 V V') (r11 : V'.2.2.2 11 = V.2.2.2 11) (r8 : V'.2.2.2 8 = V.2.2.2 8) (i3 : M'.2.1 3 = M.2.1 3) (i4 : M'.2.1 4 = M.2.1 4) (l10 : V'.1 1 10 = V.1 1 10) (l11 : V'.1 1 11 = V.1 1 11) (hk : ∀ j, 106 ≤ j → j < 5715 → M'.2.1 2 j = M.2.1 2 j) (hw : M'.2.1 6 = M.2.1 6)
    (hB : BkA (V'.1 1) (V'.2.1 2) (V'.2.1 3) (V'.2.1 4) (V'.2.1 5) (V'.2.1 6) (V'.2.1 7) (V'.2.1 9) (V'.2.1 10) (M'.2.1 2)) (hD : Dd (V'.1 32 1) (M'.1 0 31) (V'.2.1 33) (M'.2.1 13) (M'.2.1 2)) (hT : Tp (V'.1 0 15) (M'.1 0 13) (V'.2.1 36) (M'.2.1 7)) (hF : Rf (V'.1 0 18) (M'.1 0 0) (V'.2.1 63) (M'.2.1 1)) (hP : Pp (V'.1 22 9) (M'.1 0 48) (V'.2.1 23) (V'.2.1 27) (M'.2.1 24)) (hM : Ms (V'.1 0 16) (M'.1 0 6) (V'.1 0 17) (M'.1 0 40) (V'.1 37 8) (M'.1 0 14)) : Rel X b0 S V' M' := by
  obtain ⟨h1, h2, h3, h4, -, -, -, -, -, h10⟩ := hR
  refine ⟨h1, hB, ?_, ?_, hD, hT, hF, hP, hM, by rw [hw]; exact h10.1, by rw [(g 59 (by omega)).2.1, (g 60 (by omega)).2.1]; exact h10.2⟩
  · rw [r11, r8]; exact BkL_g l10 l11 (G64_o g) hk h3
  · rw [r11, i3, i4]; exact Ims_g (G64_o g) h4
/-- scratch: what the relation doesn't speak of -/
def kp (h : Nat) : Bool := h ≤ 11 || (22 ≤ h && h ≤ 33) || h == 36 || h == 59 || h == 60 || 63 ≤ h
def SX (V V' : Vt) : Prop := (∀ h, kp h = true → V'.1 h = V.1 h ∧ V'.2.1 h = V.2.1 h ∧ V'.2.2.2 h = V.2.2.2 h) ∧ V'.1 37 8 = V.1 37 8
def kpm (h : Nat) : Bool := (1 ≤ h && h ≤ 4) || h == 6 || h == 7 || h == 13 || h == 24
def kpf (j : Nat) : Bool := j == 0 || j == 6 || j == 13 || j == 14 || j == 31 || j == 40 || j == 48
def SM0 (M M' : Vt) : Prop := (∀ h, kpm h = true → M'.2.1 h = M.2.1 h) ∧ ∀ j, kpf j = true → M'.1 0 j = M.1 0 j
theorem SX_r (V : Vt) : SX V V := ⟨fun _ _ => ⟨rfl, rfl, rfl⟩, rfl⟩
theorem SX_t {V V' V2 : Vt} (a : SX V V') (b : SX V' V2) : SX V V2 := ⟨fun h hh => ⟨(b.1 h hh).1.trans (a.1 h hh).1, (b.1 h hh).2.1.trans (a.1 h hh).2.1, (b.1 h hh).2.2.trans (a.1 h hh).2.2⟩, b.2.trans a.2⟩
theorem SX_A {V V' : Vt} (a : SX V V') {h j : Nat} {x : Int32} (hh : kp h = false) : SX V (sA V' h j x) := SX_t a ⟨fun g hg => ⟨rfl, sA_n _ _ _ _ _ (fun e => by rw [e, hh] at hg; cases hg), rfl⟩, rfl⟩
theorem SX_F {V V' : Vt} (a : SX V V') {h j : Nat} {x : Int32} (hh : kp h = false) (h37 : h ≠ 37) : SX V (sF V' h j x) := SX_t a ⟨fun g hg => ⟨sF_n _ _ _ _ _ (fun e => by rw [e, hh] at hg; cases hg), rfl, rfl⟩, congrFun (sF_n _ _ _ _ _ (fun e => h37 e.symm)) 8⟩
theorem SX_J {V V' : Vt} (a : SX V V') {h j : Nat} {x : Int64} : SX V (sJ V' h j x) := a
theorem SX_64 {V V' : Vt} (a : SX V V') : G64 V V' := fun h hh => a.1 h (by simp [kp]; omega)
theorem SM_r (M : Vt) : SM0 M M := ⟨fun _ _ => rfl, fun _ _ => rfl⟩
theorem SM_t {V V' V2 : Vt} (a : SM0 V V') (b : SM0 V' V2) : SM0 V V2 := ⟨fun h hh => (b.1 h hh).trans (a.1 h hh), fun h hh => (b.2 h hh).trans (a.2 h hh)⟩
theorem SM_A {V V' : Vt} (a : SM0 V V') {h j : Nat} {x : Int32} (hh : kpm h = false) : SM0 V (sA V' h j x) := SM_t a ⟨fun g hg => sA_n _ _ _ _ _ (fun e => by rw [e, hh] at hg; cases hg), fun _ _ => rfl⟩
theorem SM_F {V V' : Vt} (a : SM0 V V') {j : Nat} {x : Int32} (hh : kpf j = false) : SM0 V (sF V' 0 j x) := SM_t a ⟨fun g hg => rfl, fun i hi => by rw [sF_e]; exact upd_n _ _ _ _ (fun e => by rw [e, hh] at hi; cases hi)⟩
theorem SM_J {V V' : Vt} (a : SM0 V V') {h j : Nat} {x : Int64} : SM0 V (sJ V' h j x) := a
theorem Rel_s {X : TxP} {b0 : Nat} {S : St} {V M V' M' : Vt} (hR : Rel X b0 S V M) (a : SX V V') (b : SM0 M M') : Rel X b0 S V' M' := by
  refine Rel_of hR (SX_64 a) (a.1 11 rfl).2.2 (a.1 8 rfl).2.2 (b.1 3 rfl) (b.1 4 rfl) (by rw [(a.1 1 rfl).1]) (by rw [(a.1 1 rfl).1]) (fun j _ _ => by rw [b.1 2 rfl]) (b.1 6 rfl) ?_ ?_ ?_ ?_ ?_ ?_
  · rw [(a.1 1 rfl).1, (a.1 2 rfl).2.1, (a.1 3 rfl).2.1, (a.1 4 rfl).2.1, (a.1 5 rfl).2.1, (a.1 6 rfl).2.1, (a.1 7 rfl).2.1, (a.1 9 rfl).2.1, (a.1 10 rfl).2.1, b.1 2 rfl]; exact hR.2.1
  · rw [(a.1 32 rfl).1, b.2 31 rfl, (a.1 33 rfl).2.1, b.1 13 rfl, b.1 2 rfl]; exact hR.2.2.2.2.1
  · rw [(a.1 0 rfl).1, b.2 13 rfl, (a.1 36 rfl).2.1, b.1 7 rfl]; exact hR.2.2.2.2.2.1
  · rw [(a.1 0 rfl).1, b.2 0 rfl, (a.1 63 rfl).2.1, b.1 1 rfl]; exact hR.2.2.2.2.2.2.1
  · rw [(a.1 22 rfl).1, b.2 48 rfl, (a.1 23 rfl).2.1, (a.1 27 rfl).2.1, b.1 24 rfl]; exact hR.2.2.2.2.2.2.2.1
  · rw [(a.1 0 rfl).1, b.2 6 rfl, b.2 40 rfl, a.2, b.2 14 rfl]; exact hR.2.2.2.2.2.2.2.2.1
/-- refused, granted -/
theorem Rel_ref {X : TxP} {b0 : Nat} {S : St} {V M : Vt} (hR : Rel X b0 S V M) (k : Nat) (hk : k = 1 ∨ k = 2 ∨ k = 3 ∨ k = 5 ∨ k = 6) : Rel X b0 S (rfX V k) (rfM M k) := by
  refine Rel_of hR (G64_F (G64_A (G64_r V) (by omega)) (by omega)) rfl rfl rfl rfl rfl rfl (fun _ _ _ => rfl) rfl hR.2.1 hR.2.2.2.2.1 hR.2.2.2.2.2.1 ?_ hR.2.2.2.2.2.2.2.1 hR.2.2.2.2.2.2.2.2.1
  obtain ⟨-, e0, e1, e2, e3, e4⟩ := hR.2.2.2.2.2.2.1
  rcases hk with rfl | rfl | rfl | rfl | rfl
  · exact ⟨rfl, congrArg (· + 1) e0, e1, e2, e3, e4⟩
  · exact ⟨rfl, e0, congrArg (· + 1) e1, e2, e3, e4⟩
  · exact ⟨rfl, e0, e1, congrArg (· + 1) e2, e3, e4⟩
  · exact ⟨rfl, e0, e1, e2, congrArg (· + 1) e3, e4⟩
  · exact ⟨rfl, e0, e1, e2, e3, congrArg (· + 1) e4⟩
theorem Rel_good {X : TxP} {b0 : Nat} {S : St} {V M : Vt} (hR : Rel X b0 S V M) : Rel X b0 S (sF V 0 18 (nI 0)) (sF M 0 0 (nI 0)) := by
  refine Rel_of hR (G64_F (G64_r V) (by omega)) rfl rfl rfl rfl rfl rfl (fun _ _ _ => rfl) rfl hR.2.1 hR.2.2.2.2.1 hR.2.2.2.2.2.1 ?_ hR.2.2.2.2.2.2.2.1 hR.2.2.2.2.2.2.2.2.1
  exact ⟨rfl, hR.2.2.2.2.2.2.1.2⟩
