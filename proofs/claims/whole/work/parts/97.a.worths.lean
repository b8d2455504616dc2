section
/-! orders: the worths of the words -/
def oW (K : Nat → Int32) (n5 : Nat) (dn lt : Int32) (i : Nat) : Int32 := if i = 0 then K 31 else if i = 1 then dn else if i = 2 then lt else if i < 28 then K (i - 3) else if i < 33 then ofS K (fun j => K (32 + j)) (i - 28) else if i < 38 then ofS K (fun j => K (32 + j)) (5 + (i - 33)) else if i < 43 then (if i - 38 < n5 then K (25 + (i - 38)) else -1) else 0
theorem oW_3 (K : Nat → Int32) (n5 : Nat) (dn lt : Int32) {k : Nat} (h : k < 25) : oW K n5 dn lt (3 + k) = K k := by
  unfold oW
  rw [if_neg (by omega), if_neg (by omega), if_neg (by omega), if_pos (by omega), show 3 + k - 3 = k by omega]
theorem oW_28 (K : Nat → Int32) (n5 : Nat) (dn lt : Int32) {k : Nat} (h : k < 5) : oW K n5 dn lt (28 + k) = ofS K (fun j => K (32 + j)) k := by
  unfold oW
  rw [if_neg (by omega), if_neg (by omega), if_neg (by omega), if_neg (by omega), if_pos (by omega), show 28 + k - 28 = k by omega]
theorem oW_33 (K : Nat → Int32) (n5 : Nat) (dn lt : Int32) {k : Nat} (h : k < 5) : oW K n5 dn lt (33 + k) = ofS K (fun j => K (32 + j)) (5 + k) := by
  unfold oW
  rw [if_neg (by omega), if_neg (by omega), if_neg (by omega), if_neg (by omega), if_neg (by omega), if_pos (by omega), show 33 + k - 33 = k by omega]
theorem oW_38 (K : Nat → Int32) (n5 : Nat) (dn lt : Int32) {k : Nat} (h : k < 5) : oW K n5 dn lt (38 + k) = if k < n5 then K (25 + k) else -1 := by
  unfold oW
  rw [if_neg (by omega), if_neg (by omega), if_neg (by omega), if_neg (by omega), if_neg (by omega), if_neg (by omega), if_pos (by omega), show 38 + k - 38 = k by omega]
theorem x_hand {N : Nat} (S : St) (V : Vt) {n5 i : Nat} (hn : n5 ≤ 5) (hi : i < 5) (e : V.1 1 9 = nI n5) : f_X0_handOf N S V 1 (nI i) = some (if i < n5 then V.2.1 6 i else -1) := by
  by_cases h : i < n5
  · have hc : f_X0_hasClerk N S V 1 (nI i) = some (nI 1) := by
      unfold f_X0_hasClerk
      rw [e, if_neg (nI_pos (by omega)), if_neg (by rw [nI_L (by omega) (by omega)]; omega)]; rfl
    unfold f_X0_handOf
    rw [hc, pl_ob1, if_neg (by decide), pl_ck (by omega) (by omega), nI_cl (by omega), if_pos h]
  · have hc : f_X0_hasClerk N S V 1 (nI i) = some (nI 0) := by
      unfold f_X0_hasClerk
      rw [e, if_neg (nI_pos (by omega)), if_pos (by rw [nI_L (by omega) (by omega)]; omega)]; rfl
    unfold f_X0_handOf
    rw [hc, pl_ob1, if_pos (show nI 0 = 0 from rfl), if_neg h]
theorem m_isCl {N : Nat} (M : Vt) {n5 i : Nat} (hn : n5 ≤ 5) (hi : i < 5) (e : M.2.1 2 103 = nI n5) : f_X9_isClerk N M (nI i) = some (if i < n5 then nI 1 else nI 0) := by
  unfold f_X9_isClerk f_X9_lies
  rw [lj 103, pl_ck (by omega) (by omega), nI_cl (by omega), e, if_neg (nI_pos (by omega))]
  by_cases h : i < n5
  · rw [lj 1, pk_sub (by omega), if_neg (by rw [nI_T (by omega) (by omega)]; omega), if_pos h]; rfl
  · have z : nI n5 - 1 < nI i := by
      by_cases z0 : n5 = 0
      · subst z0
        have e1 : (nI 0 - 1).toInt = -1 := rfl
        rw [Int32.lt_iff_toInt_lt, e1, nI_tz (by omega)]; omega
      · rw [lj 1, pk_sub (by omega), nI_T (by omega) (by omega)]; omega
    rw [if_pos z, if_neg h]; rfl
theorem x_fillO {N b0 : Nat} (hN : 20000 ≤ N) {S : St} {V M : Vt} (hB : BkA (V.1 1) (V.2.1 2) (V.2.1 3) (V.2.1 4) (V.2.1 5) (V.2.1 6) (V.2.1 7) (V.2.1 9) (V.2.1 10) (M.2.1 2)) {n5 : Nat} (h5 : n5 ≤ 5) (en : M.2.1 2 103 = nI n5) (dn lt : Int32) : ∃ f, f_X8_fillOrderWorths N S V 0 dn lt = some (pA V 61 f) ∧ ∀ i, i < 43 → f i = oW (M.2.1 2) n5 dn lt i := by
  have ev9 : V.1 1 9 = nI n5 := hB.2.2.2.2.2.2.2.2.1.trans en
  have gp : ∀ f k i, k ≤ 1 → i < 5 → f_X0_gap N S (pA V 61 f) (0 + 1) (nI k) (nI i) = some (ofS (M.2.1 2) (fun j => M.2.1 2 (32 + j)) (5 * k + i)) := fun f k i hk hi => by
    have := x_gap hN S (pA V 61 f) 1 k i hk hi
    rw [pA_n _ _ _ _ (show 1 + 1 ≠ 61 by omega), pA_n _ _ _ _ (show 1 + 3 ≠ 61 by omega)] at this
    have e : ofS (V.2.1 (1 + 1)) (V.2.1 (1 + 3)) (5 * k + i) = ofS (M.2.1 2) (fun j => M.2.1 2 (32 + j)) (5 * k + i) := ofS_c (by omega) (fun i hi => (hB.1 i hi).1) (hB.2.2.1 (5 * k + i) (by omega)).1
    rw [e] at this
    exact this
  have hd : ∀ f i, i < 5 → f_X0_handOf N S (pA V 61 f) (0 + 1) (nI i) = some (if i < n5 then M.2.1 2 (25 + i) else -1) := fun f i hi => by
    have := x_hand (N := N) S (pA V 61 f) h5 hi ev9
    rw [pA_n _ _ _ _ (show 6 ≠ 61 by omega), (hB.2.2.2.2.1 i hi).1] at this
    exact this
  obtain ⟨f0, hf0⟩ : ∃ f0, f0 = va_cpy (V.2.1 2) (upd (upd (upd (V.2.1 61) 0 (V.2.1 7 0)) 1 dn) 2 lt) 0 3 25 := ⟨_, rfl⟩
  have f0a : ∀ i, i < 28 → f0 i = oW (M.2.1 2) n5 dn lt i := by
    intro i hi
    rw [hf0]
    unfold va_cpy
    by_cases h3 : i < 3
    · rw [if_neg (by omega)]
      rcases (by omega : i = 0 ∨ i = 1 ∨ i = 2) with rfl | rfl | rfl
      · rw [upd_n _ _ _ _ (by omega), upd_n _ _ _ _ (by omega), upd_e]; exact hB.2.2.2.2.2.1.1.1
      · rw [upd_n _ _ _ _ (by omega), upd_e]; rfl
      · rw [upd_e]; rfl
    · rw [if_pos (by omega)]
      have := oW_3 (M.2.1 2) n5 dn lt (k := i - 3) (by omega)
      rw [show 3 + (i - 3) = i by omega] at this
      rw [this, show 0 + (i - 3) = i - 3 by omega]; exact (hB.1 (i - 3) (by omega)).1
  obtain ⟨f1, ⟨p1, p2⟩, k1, en1⟩ := lpN N (fun k (f : Nat → Int32) i => f_X8_fillOrderWorths_49 N S 0 k (pA V 61 f) i) 5 (fun i f => (∀ j, j < 28 → f j = oW (M.2.1 2) n5 dn lt j) ∧ ∀ j, j < i → f (28 + j) = oW (M.2.1 2) n5 dn lt (28 + j) ∧ f (33 + j) = oW (M.2.1 2) n5 dn lt (33 + j)) (by
    intro i f hi ⟨h1, h2⟩
    refine ⟨upd (upd f (28 + i) (oW (M.2.1 2) n5 dn lt (28 + i))) (33 + i) (oW (M.2.1 2) n5 dn lt (33 + i)), ⟨fun j hj => by rw [upd_n _ _ _ _ (by omega), upd_n _ _ _ _ (by omega)]; exact h1 j hj, fun j hj => ?_⟩, fun k => ?_⟩
    · by_cases q : j = i
      · rw [q]; exact ⟨by rw [upd_n _ _ _ _ (by omega), upd_e], by rw [upd_e]⟩
      · exact ⟨by rw [upd_n _ _ _ _ (by omega), upd_n _ _ _ _ (by omega)]; exact (h2 j (by omega)).1, by rw [upd_n _ _ _ _ (by omega), upd_n _ _ _ _ (by omega)]; exact (h2 j (by omega)).2⟩
    · show f_X8_fillOrderWorths_49 N S 0 (k + 1) (pA V 61 f) (nI i) = _
      have s1 : ∀ f j x, sA (pA V 61 f) (0 + 61) j x = pA V 61 (upd f j x) := fun f j x => sA_pAe V 61 j f x
      rw [f_X8_fillOrderWorths_49, if_neg (show ¬ (5 : Int32) ≤ nI i by rw [lj 5, nI_L (by omega) (by omega)]; omega), show (0 : Int32) = nI 0 from rfl, gp f 0 i (by omega) hi, pl_ob1, lj 28, nI_add, pl_ck (by omega) (by omega), nI_cl (by omega), s1, pl_bd, show (1 : Int32) = nI 1 from rfl, gp _ 1 i (by omega) hi, pl_ob1, lj 33, nI_add, pl_ck (by omega) (by omega), nI_cl (by omega), s1, pl_bd, nI_add, pl_bd, oW_28 _ _ _ _ hi, oW_33 _ _ _ _ hi, Nat.mul_zero, Nat.zero_add, Nat.mul_one]) f0 (by omega) ⟨f0a, fun j hj => absurd hj (Nat.not_lt_zero j)⟩
  obtain ⟨f2, ⟨r1, r2, r3⟩, k2, en2⟩ := lpN N (fun k (f : Nat → Int32) i => f_X8_fillOrderWorths_98 N S 0 k (pA V 61 f) i) 5 (fun i f => (∀ j, j < 28 → f j = oW (M.2.1 2) n5 dn lt j) ∧ (∀ j, j < 5 → f (28 + j) = oW (M.2.1 2) n5 dn lt (28 + j) ∧ f (33 + j) = oW (M.2.1 2) n5 dn lt (33 + j)) ∧ ∀ j, j < i → f (38 + j) = oW (M.2.1 2) n5 dn lt (38 + j)) (by
    intro i f hi ⟨h1, h2, h3⟩
    refine ⟨upd f (38 + i) (oW (M.2.1 2) n5 dn lt (38 + i)), ⟨fun j hj => by rw [upd_n _ _ _ _ (by omega)]; exact h1 j hj, fun j hj => ⟨by rw [upd_n _ _ _ _ (by omega)]; exact (h2 j hj).1, by rw [upd_n _ _ _ _ (by omega)]; exact (h2 j hj).2⟩, fun j hj => ?_⟩, fun k => ?_⟩
    · by_cases q : j = i
      · rw [q, upd_e]
      · rw [upd_n _ _ _ _ (by omega)]; exact h3 j (by omega)
    · show f_X8_fillOrderWorths_98 N S 0 (k + 1) (pA V 61 f) (nI i) = _
      have s1 : ∀ f j x, sA (pA V 61 f) (0 + 61) j x = pA V 61 (upd f j x) := fun f j x => sA_pAe V 61 j f x
      rw [f_X8_fillOrderWorths_98, if_neg (show ¬ (5 : Int32) ≤ nI i by rw [lj 5, nI_L (by omega) (by omega)]; omega), hd f i hi, pl_ob1, lj 38, nI_add, pl_ck (by omega) (by omega), nI_cl (by omega), s1, pl_bd, nI_1, pl_bd, oW_38 _ _ _ _ hi]) f1 (by omega) ⟨p1, fun j hj => p2 j hj, fun j hj => absurd hj (Nat.not_lt_zero j)⟩
  refine ⟨f2, ?_, fun i hi => ?_⟩
  · have c1 : cpB (0 : Int32) (3 : Int32) (25 : Int32) 25 43 = true := rfl
    have s0 : sA V (0 + 61) (0 : Int32).toNatClampNeg (V.2.1 (0 + 7) (0 : Int32).toNatClampNeg) = pA V 61 (upd (V.2.1 61) 0 (V.2.1 7 0)) := sA_pA V 61 0 _
    have s1 : ∀ f x, sA (pA V 61 f) (0 + 61) (1 : Int32).toNatClampNeg x = pA V 61 (upd f 1 x) := fun f x => sA_pAe V 61 1 f x
    have s2 : ∀ f x, sA (pA V 61 f) (0 + 61) (2 : Int32).toNatClampNeg x = pA V 61 (upd f 2 x) := fun f x => sA_pAe V 61 2 f x
    have s3 : sC (pA V 61 (upd (upd (upd (V.2.1 61) 0 (V.2.1 7 0)) 1 dn) 2 lt)) (0 + 61) (va_cpy ((pA V 61 (upd (upd (upd (V.2.1 61) 0 (V.2.1 7 0)) 1 dn) 2 lt)).2.1 (0 + 2)) ((pA V 61 (upd (upd (upd (V.2.1 61) 0 (V.2.1 7 0)) 1 dn) 2 lt)).2.1 (0 + 61)) (0 : Int32).toNatClampNeg (3 : Int32).toNatClampNeg (25 : Int32).toNatClampNeg) = pA V 61 f0 := by
      rw [hf0]
      show pA (pA V 61 _) 61 (va_cpy ((pA V 61 _).2.1 2) ((pA V 61 _).2.1 61) 0 3 25) = _
      rw [pA_pA, pA_e, pA_n _ _ _ _ (by omega)]
    have k3 : ∀ {α : Type} (k : Option α), ck (0 : Int32) 3 k = k := fun k => rfl
    have k43 : ∀ {α : Type} (k : Option α), ck (0 : Int32) 43 k = k := fun k => rfl
    have k431 : ∀ {α : Type} (k : Option α), ck (1 : Int32) 43 k = k := fun k => rfl
    have k432 : ∀ {α : Type} (k : Option α), ck (2 : Int32) 43 k = k := fun k => rfl
    have en1' : f_X8_fillOrderWorths_49 N S 0 N (pA V 61 f0) 0 = f_X8_fillOrderWorths_49 N S 0 (k1 + 1) (pA V 61 f1) (nI 5) := en1
    have en2' : f_X8_fillOrderWorths_98 N S 0 N (pA V 61 f1) 0 = f_X8_fillOrderWorths_98 N S 0 (k2 + 1) (pA V 61 f2) (nI 5) := en2
    unfold f_X8_fillOrderWorths
    rw [k3, k43, s0, pl_bd, k431, s1, pl_bd, k432, s2, pl_bd, cgT c1, s3, pl_bd, en1', f_X8_fillOrderWorths_49, if_pos (by decide), en2', f_X8_fillOrderWorths_98, if_pos (by decide)]
  · by_cases c1 : i < 28
    · exact r1 i c1
    · by_cases c2 : i < 33
      · have := (r2 (i - 28) (by omega)).1
        rw [show 28 + (i - 28) = i by omega] at this; exact this
      · by_cases c3 : i < 38
        · have := (r2 (i - 33) (by omega)).2
          rw [show 33 + (i - 33) = i by omega] at this; exact this
        · have := r3 (i - 38) (by omega)
          rw [show 38 + (i - 38) = i by omega] at this; exact this
theorem m_oval {N : Nat} (hN : 20000 ≤ N) (M : Vt) {n5 c k : Nat} (h5 : n5 ≤ 5) (en : M.2.1 2 103 = nI n5) (ok : okw c k) (g : Nat) (b : Int32) : f_X9_orderValue N (mS M g b) (nI c) (nI k) = some (oW (M.2.1 2) n5 (M.1 0 27) (M.1 0 28) (wo c k)) := by
  have of : ∀ s, s < 10 → f_X9_offBy N (mS M g b) (nI s) = some (ofS (M.2.1 2) (fun i => M.2.1 2 (32 + i)) s) := fun s hs => m_offBy hN (mS M g b) s hs
  have ic : ∀ i, i < 5 → f_X9_isClerk N (mS M g b) (nI i) = some (if i < n5 then nI 1 else nI 0) := fun i hi => m_isCl (mS M g b) h5 hi en
  unfold f_X9_orderValue
  rcases ok with ⟨rfl, hk⟩ | ⟨rfl | rfl | rfl, hk⟩ | rfl | rfl | rfl
  · rw [if_pos (show nI 15 = 15 from rfl), show (0 : Int32) = nI 0 from rfl, nI_add, Nat.zero_add, pl_ck (by omega) (by omega), nI_cl (by omega)]
    show some (M.2.1 2 k) = some (oW _ _ _ _ (3 + k))
    rw [oW_3 _ _ _ _ hk]
  · rw [if_neg (by decide), if_pos (show nI 16 = 16 from rfl), of k (by omega), pl_ob1]
    show _ = some (oW _ _ _ _ (28 + k))
    rw [oW_28 _ _ _ _ hk]
  · rw [if_neg (by decide), if_neg (by decide), if_pos (show nI 17 = 17 from rfl), lj 5, nI_add, of (5 + k) (by omega), pl_ob1]
    show _ = some (oW _ _ _ _ (33 + k))
    rw [oW_33 _ _ _ _ hk]
  · rw [if_neg (by decide), if_neg (by decide), if_neg (by decide), if_neg (by decide), if_neg (by decide), if_neg (by decide), if_pos (show nI 21 = 21 from rfl), ic k hk, pl_ob1]
    show _ = some (oW _ _ _ _ (38 + k))
    rw [oW_38 _ _ _ _ hk]
    by_cases h : k < n5
    · rw [if_pos h, if_pos h, if_neg (by decide), lj 25, nI_add, pl_ck (by omega) (by omega), nI_cl (by omega)]; rfl
    · rw [if_neg h, if_neg h, if_pos (show nI 0 = 0 from rfl)]
  · rw [if_neg (by decide), if_neg (by decide), if_neg (by decide), if_pos (show nI 18 = 18 from rfl), lj 31, pl_ck (by omega) (by omega), nI_cl (by omega)]; rfl
  · rw [if_neg (by decide), if_neg (by decide), if_neg (by decide), if_neg (by decide), if_pos (show nI 19 = 19 from rfl)]; rfl
  · rw [if_neg (by decide), if_neg (by decide), if_neg (by decide), if_neg (by decide), if_neg (by decide), if_pos (show nI 20 = 20 from rfl)]; rfl
def MXg (N : Nat) (K : Nat → Int32) (n : Nat) (T U : Nat → Int32) (dn lt : Int32) (W : Nat → Int32) : Prop := ∀ M', M'.2.1 2 = K → M'.1 0 25 = nI 1 → M'.1 0 23 = nI (2400 + n) → M'.1 0 27 = dn → M'.1 0 28 = lt → MX N 1 M' 2400 n T U W
theorem MXg_of {N : Nat} (hN : 20000 ≤ N) {K T U : Nat → Int32} {n n5 : Nat} (h5 : n5 ≤ 5) (en : K 103 = nI n5) (hn : n ≤ 400) (hT : ∀ j, j < n → K (2515 + j) = T j ∧ K (5315 + j) = U j) (dn lt : Int32) : MXg N K n T U dn lt (oW K n5 dn lt) := by
  intro M' hK h25 h23 h27 h28
  refine ⟨⟨h25, h23, by omega, hn⟩, fun j hj => ?_, fun j hj => ?_, Or.inr ⟨rfl, fun c k ok g b => ?_⟩⟩
  · rw [hK, show 115 + (2400 + j) = 2515 + j by omega]; exact (hT j hj).1
  · rw [hK, show 2915 + (2400 + j) = 5315 + j by omega]; exact (hT j hj).2
  · rw [m_oval hN M' h5 (by rw [hK]; exact en) ok, hK, h27, h28]
theorem oW_B {f e fe su ke ha te si pa K : Nat → Int32} (h : BkA f e fe su ke ha te si pa K) (n5 : Nat) {dn lt : Int32} (hd : dn ≠ MNV) (hl : lt ≠ MNV) : WB (oW K n5 dn lt) := by
  intro i
  obtain ⟨b1, b2, b3, b4, b5, b6, b7, b8, b9⟩ := h
  unfold oW
  by_cases c0 : i = 0
  · rw [if_pos c0]; exact rg_ne b6.1.2 (by omega)
  · by_cases c1 : i = 1
    · rw [if_neg c0, if_pos c1]; exact hd
    · by_cases c2 : i = 2
      · rw [if_neg c0, if_neg c1, if_pos c2]; exact hl
      · rw [if_neg c0, if_neg c1, if_neg c2]
        by_cases c3 : i < 28
        · rw [if_pos c3]; exact rg_ne (b1 (i - 3) (by omega)).2 (by omega)
        · rw [if_neg c3]
          by_cases c4 : i < 33
          · rw [if_pos c4]; exact MNV_i (by have := (ofS_int (e := K) (su := fun j => K (32 + j)) (s := i - 28) (by omega) (fun i hi => (b1 i hi).2) (fun i hi => (b3 i hi).2)).1; omega)
          · rw [if_neg c4]
            by_cases c5 : i < 38
            · rw [if_pos c5]; exact MNV_i (by have := (ofS_int (e := K) (su := fun j => K (32 + j)) (s := 5 + (i - 33)) (by omega) (fun i hi => (b1 i hi).2) (fun i hi => (b3 i hi).2)).1; omega)
            · rw [if_neg c5]
              by_cases c6 : i < 43
              · rw [if_pos c6]
                by_cases c7 : i - 38 < n5
                · rw [if_pos c7]; exact rg_ne (b5 (i - 38) (by omega)).2 (by omega)
                · rw [if_neg c7]; decide
              · rw [if_neg c6]; decide
end
