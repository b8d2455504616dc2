section
/-! tokens: the reference's way -/
theorem sb_E {b c : Nat} (hb : b < 256) (hc : c < 128) : sb_b b = nI c ↔ b = c := by
  by_cases h : b < 128
  · rw [sb_sm h, nI_eq (by omega) (by omega)]
  · constructor
    · intro q
      have := sb_neg b hb (by omega)
      rw [q, nI_T (by omega) (by omega)] at this
      omega
    · intro q; omega
theorem sb_small (N : Nat) {b : Nat} (hb : b < 256) : f_X9_isSmall N (sb_b b) = some (if kdB b = 1 then nI 1 else nI 0) := by
  unfold f_X9_isSmall
  by_cases h : b < 128
  · rw [sb_sm h]
    by_cases c : 97 ≤ b ∧ b ≤ 122
    · rw [if_neg (by rw [lj 97, nI_T (by omega) (by omega)]; omega), if_neg (by rw [lj 122, nI_T (by omega) (by omega)]; omega), if_pos ((kd_1 b).mpr c)]; rfl
    · rw [if_neg (fun q => c ((kd_1 b).mp q))]
      by_cases c1 : b < 97
      · rw [if_pos (by rw [lj 97, nI_T (by omega) (by omega)]; omega)]; rfl
      · rw [if_neg (by rw [lj 97, nI_T (by omega) (by omega)]; omega), if_pos (by rw [lj 122, nI_T (by omega) (by omega)]; omega)]; rfl
  · have := sb_neg b hb (by omega)
    rw [if_pos (by rw [Int32.lt_iff_toInt_lt] at this ⊢; have e0 : (nI 0).toInt = 0 := rfl; have e1 : (97 : Int32).toInt = 97 := rfl; omega), if_neg (by rw [kd_1]; omega)]; rfl
theorem sb_digit (N : Nat) {b : Nat} (hb : b < 256) : f_X9_isDigit N (sb_b b) = some (if kdB b = 2 then nI 1 else nI 0) := by
  unfold f_X9_isDigit
  by_cases h : b < 128
  · rw [sb_sm h]
    by_cases c : 48 ≤ b ∧ b ≤ 57
    · rw [if_neg (by rw [lj 48, nI_T (by omega) (by omega)]; omega), if_neg (by rw [lj 57, nI_T (by omega) (by omega)]; omega), if_pos ((kd_2 b).mpr c)]; rfl
    · rw [if_neg (fun q => c ((kd_2 b).mp q))]
      by_cases c1 : b < 48
      · rw [if_pos (by rw [lj 48, nI_T (by omega) (by omega)]; omega)]; rfl
      · rw [if_neg (by rw [lj 48, nI_T (by omega) (by omega)]; omega), if_pos (by rw [lj 57, nI_T (by omega) (by omega)]; omega)]; rfl
  · have := sb_neg b hb (by omega)
    rw [if_pos (by rw [Int32.lt_iff_toInt_lt] at this ⊢; have e0 : (nI 0).toInt = 0 := rfl; have e1 : (48 : Int32).toInt = 48 := rfl; omega), if_neg (by rw [kd_2]; omega)]; rfl
/-- where each word stands in the row of words -/
def wof : List Nat := [0, 6, 12, 18, 23, 26, 29, 33, 37, 42, 46, 53, 59, 64, 69, 75, 79, 86, 90, 95, 102, 107, 112, 115, 121, 124, 127, 133, 138, 144]
def wlN (i : Nat) : Nat := (wdL.getD i 0).toNatClampNeg
theorem wof_ok : ∀ w, w < 29 → (let o := wof.getD w 0; let l := (ALLW.getD w []).length; wof.getD (w + 1) 0 = o + l + 1 ∧ o + l < 144 ∧ wdL.getD (o + l) 0 = 32 ∧ ∀ i, i < 10 → i < l → (wdL.getD (o + i) 0 = nI ((ALLW.getD w []).getD i 0) ∧ (ALLW.getD w []).getD i 0 < 128 ∧ (ALLW.getD w []).getD i 0 ≠ 32)) := by decide +kernel
theorem wof_len : ∀ w, w < 29 → (ALLW.getD w []).length < 10 := by decide +kernel
theorem m_wordOf {N : Nat} (hN : 20000 ≤ N) (M : Vt) (hW : Wq (M.2.1 6)) {B : Nat → Nat} {s e : Nat} (hse : s ≤ e) (he : e ≤ 400) (hB : ∀ i, s ≤ i → i < e → B i < 256 ∧ M.2.1 7 i = sb_b (B i)) : f_X9_wordOf N M (nI s) (nI e) = some (nI (fw (tkn B s (e - s)) ALLW 1)) := by
  have main : ∀ k w m, w + k = 29 → k < m → f_X9_wordOf_5 N M m (nI s) (nI e) (nI (w + 1)) (nI (wof.getD w 0)) = some (nI (fw (tkn B s (e - s)) (ALLW.drop w) (w + 1))) := by
    intro k
    induction k with
    | zero =>
      intro w m hw hm
      obtain ⟨m, rfl⟩ : ∃ m', m = m' + 1 := ⟨m - 1, by omega⟩
      have : w = 29 := by omega
      subst this
      rw [f_X9_wordOf_5, if_pos (by decide)]; rfl
    | succ k ih =>
      intro w m hw hm
      obtain ⟨m, rfl⟩ : ∃ m', m = m' + 1 := ⟨m - 1, by omega⟩
      have hw29 : w < 29 := by omega
      obtain ⟨o1, o2, o3, o4⟩ := wof_ok w hw29
      have l10 := wof_len w hw29
      have ih' := ih (w + 1) m (by omega) (by omega)
      have dr : ALLW.drop w = ALLW.getD w [] :: ALLW.drop (w + 1) := by
        have hl : ALLW.length = 29 := rfl
        rw [List.drop_eq_getElem_cons (by omega), List.getD_eq_getElem?_getD, List.getElem?_eq_getElem (by omega)]; rfl
      obtain ⟨o, ho⟩ : ∃ o, o = wof.getD w 0 := ⟨_, rfl⟩
      obtain ⟨wd, hwd⟩ : ∃ wd, wd = ALLW.getD w [] := ⟨_, rfl⟩
      rw [← ho, ← hwd] at o1 o2 o4
      have o3' : wdL.getD (o + wd.length) 0 = 32 := by rw [ho, hwd]; exact o3
      rw [← hwd] at l10 dr
      rw [← ho]
      rw [o1] at ih'
      have fe : fw (tkn B s (e - s)) (ALLW.drop w) (w + 1) = if tkn B s (e - s) = wd then w + 1 else fw (tkn B s (e - s)) (ALLW.drop (w + 1)) (w + 2) := by rw [dr]; rfl
      rw [fe]
      have hWi : ∀ i, i < 144 → M.2.1 6 i = wdL.getD i 0 := hW
      -- both words side by side
      have cmp : ∀ k i q same, i + k = wd.length → k < q → wd.length = e - s → (same = nI 1 ↔ ∀ j, j < i → wd.getD j 0 = B (s + j)) → (same = nI 0 ∨ same = nI 1) → f_X9_wordOf_57 N M (f_X9_wordOf_5 N M m) q (nI s) (nI e) (nI (w + 1)) (nI o) (nI wd.length) same (nI i) = some (nI (if tkn B s (e - s) = wd then w + 1 else fw (tkn B s (e - s)) (ALLW.drop (w + 1)) (w + 2))) := by
        have e104 : ∀ same, (same = nI 1 ↔ ∀ j, j < wd.length → wd.getD j 0 = B (s + j)) → (same = nI 0 ∨ same = nI 1) → wd.length = e - s → f_X9_wordOf_104 N M (f_X9_wordOf_5 N M m) (nI s) (nI e) (nI (w + 1)) (nI o) (nI wd.length) same = some (nI (if tkn B s (e - s) = wd then w + 1 else fw (tkn B s (e - s)) (ALLW.drop (w + 1)) (w + 2))) := by
          intro same h1 h2 h3
          unfold f_X9_wordOf_104
          rcases h2 with h2 | h2
          · rw [if_pos (show same = 0 from h2), nI_1, nI_add, pl_bd, nI_1, pl_bd, if_neg]
            · rw [show o + (wd.length + 1) = o + wd.length + 1 by omega]; exact ih'
            · intro q
              obtain ⟨-, q2⟩ := (tkn_eq B s (e - s) wd).mp q
              have := h1.mpr (fun j hj => q2 j (by omega))
              rw [h2] at this; exact absurd this (by decide)
          · rw [if_neg (by rw [h2]; decide), if_pos ((tkn_eq B s (e - s) wd).mpr ⟨h3, fun j hj => h1.mp h2 j (by omega)⟩)]
        intro k
        induction k with
        | zero =>
          intro i q same hi hq hl h1 h2
          obtain ⟨q, rfl⟩ : ∃ q', q = q' + 1 := ⟨q - 1, by omega⟩
          rw [f_X9_wordOf_57, if_pos (by rw [nI_L (by omega) (by omega)]; omega)]
          exact e104 same (by rw [← show i = wd.length by omega]; exact h1) h2 hl
        | succ k ihk =>
          intro i q same hi hq hl h1 h2
          obtain ⟨q, rfl⟩ : ∃ q', q = q' + 1 := ⟨q - 1, by omega⟩
          rw [f_X9_wordOf_57, if_neg (by rw [nI_L (by omega) (by omega)]; omega)]
          rcases h2 with h2 | h2
          · rw [if_pos (show same = 0 from h2)]
            refine e104 same ⟨fun z => absurd (h2.symm.trans z) (by decide), fun z => h1.mpr (fun j hj => z j (by omega))⟩ (Or.inl h2) hl
          · obtain ⟨w1, w2, w3⟩ := o4 i (by omega) (by omega)
            obtain ⟨b1, b2⟩ := hB (s + i) (by omega) (by omega)
            rw [if_neg (by rw [h2]; decide), nI_add, nI_add, pl_ck (by omega) (by omega), pl_ck (by omega) (by omega), nI_cl (by omega), nI_cl (by omega), hWi _ (by omega), w1, b2]
            unfold f_X9_wordOf_96
            rw [nI_1]
            by_cases c : wd.getD i 0 = B (s + i)
            · rw [if_pos ((sb_E b1 w2).mpr c.symm).symm, pl_bd]
              refine ihk (i + 1) q (nI 1) (by omega) (by omega) hl ⟨fun _ j hj => ?_, fun _ => rfl⟩ (Or.inr rfl)
              by_cases hji : j = i
              · rw [hji]; exact c
              · exact h1.mp h2 j (by omega)
            · rw [if_neg (fun z => c ((sb_E b1 w2).mp z.symm).symm), pl_bd]
              exact ihk (i + 1) q (nI 0) (by omega) (by omega) hl ⟨fun z => absurd z (by decide), fun z => absurd (z i (by omega)) c⟩ (Or.inl rfl)
      have cnt : ∀ k i q, i + k = wd.length → k < q → f_X9_wordOf_18 N M (f_X9_wordOf_5 N M m) q (nI s) (nI e) (nI (w + 1)) (nI o) (nI i) = some (nI (if tkn B s (e - s) = wd then w + 1 else fw (tkn B s (e - s)) (ALLW.drop (w + 1)) (w + 2))) := by
        intro k
        induction k with
        | zero =>
          intro i q hi hq
          obtain ⟨q, rfl⟩ : ∃ q', q = q' + 1 := ⟨q - 1, by omega⟩
          have hi' : i = wd.length := by omega
          subst hi'
          rw [f_X9_wordOf_18, nI_add, pl_ck (by omega) (by omega), nI_cl (by omega), hWi _ (by omega), o3', if_pos rfl, pk_sub hse]
          unfold f_X9_wordOf_52
          by_cases hl : wd.length = e - s
          · rw [if_pos (by rw [hl])]
            exact cmp wd.length 0 N (nI 1) (by omega) (by omega) hl ⟨fun _ j hj => by omega, fun _ => rfl⟩ (Or.inr rfl)
          · rw [if_neg (by rw [nI_E (by omega) (by omega)]; exact hl)]
            have : f_X9_wordOf_57 N M (f_X9_wordOf_5 N M m) N (nI s) (nI e) (nI (w + 1)) (nI o) (nI wd.length) 0 0 = f_X9_wordOf_104 N M (f_X9_wordOf_5 N M m) (nI s) (nI e) (nI (w + 1)) (nI o) (nI wd.length) 0 := by
              obtain ⟨n', hn'⟩ : ∃ n', N = n' + 1 := ⟨N - 1, by omega⟩
              have gen : ∀ q, f_X9_wordOf_57 N M (f_X9_wordOf_5 N M m) (q + 1) (nI s) (nI e) (nI (w + 1)) (nI o) (nI wd.length) 0 0 = f_X9_wordOf_104 N M (f_X9_wordOf_5 N M m) (nI s) (nI e) (nI (w + 1)) (nI o) (nI wd.length) 0 := by
                intro q
                rw [f_X9_wordOf_57]
                by_cases z : nI wd.length ≤ 0
                · rw [if_pos z]
                · rw [if_neg z, if_pos rfl]
              have := gen n'
              rw [← hn'] at this; exact this
            rw [this]
            unfold f_X9_wordOf_104
            rw [if_pos rfl, nI_1, nI_add, pl_bd, nI_1, pl_bd, if_neg (fun q => hl ((tkn_eq B s (e - s) wd).mp q).1), show o + (wd.length + 1) = o + wd.length + 1 by omega]
            exact ih'
        | succ k ihk =>
          intro i q hi hq
          obtain ⟨q, rfl⟩ : ∃ q', q = q' + 1 := ⟨q - 1, by omega⟩
          obtain ⟨w1, w2, w3⟩ := o4 i (by omega) (by omega)
          rw [f_X9_wordOf_18, nI_add, pl_ck (by omega) (by omega), nI_cl (by omega), hWi _ (by omega), w1, if_neg (by rw [lj 32, nI_E (by omega) (by omega)]; exact w3), nI_1, pl_bd]
          exact ihk (i + 1) q (by omega) (by omega)
      rw [f_X9_wordOf_5, if_neg (by rw [lj 144, nI_L (by omega) (by omega)]; omega)]
      exact cnt wd.length 0 N (by omega) (by omega)
  unfold f_X9_wordOf
  exact main 29 0 N (by omega) (by omega)
end
