section
/-! words: how both find them -/
def tkn (B : Nat → Nat) (s sg : Nat) : List Nat := (List.range sg).map (fun i => B (s + i))
theorem tkn_len (B : Nat → Nat) (s sg : Nat) : (tkn B s sg).length = sg := by simp [tkn]
theorem tkn_eq (B : Nat → Nat) (s sg : Nat) (w : List Nat) : tkn B s sg = w ↔ w.length = sg ∧ ∀ i, i < sg → w.getD i 0 = B (s + i) := by
  constructor
  · intro h
    subst h
    refine ⟨tkn_len B s sg, fun i hi => ?_⟩
    rw [List.getD_eq_getElem?_getD, tkn, List.getElem?_map, List.getElem?_range hi]; rfl
  · intro ⟨h1, h2⟩
    apply List.ext_getElem?
    intro i
    by_cases hi : i < sg
    · have := h2 i hi
      rw [List.getD_eq_getElem?_getD, List.getElem?_eq_getElem (by omega)] at this
      rw [tkn, List.getElem?_map, List.getElem?_range hi, List.getElem?_eq_getElem (by omega)]
      exact congrArg some this.symm
    · rw [List.getElem?_eq_none (by rw [tkn_len]; omega), List.getElem?_eq_none (by omega)]
def chN (ls i : Nat) : Nat := ((kByt.getD ls []).getD i 0).toNatClampNeg
theorem ch_at0 : ∀ ls, ls < 20 → ∀ i, i < 52 → i < kLen.getD ls 0 → f_J0_charAt_5068e 0 ls (nI i) = some (nI (chN ls i)) ∧ chN ls i < 128 := by decide +kernel
theorem ch_at {N ls i : Nat} (h1 : ls < 20) (h2 : i < kLen.getD ls 0) : f_J0_charAt_5068e N ls (nI i) = some (nI (chN ls i)) ∧ chN ls i < 128 := by
  have h52 : ∀ ls, ls < 20 → kLen.getD ls 0 ≤ 52 := by decide +kernel
  exact ch_at0 ls h1 i (by have := h52 ls h1; omega) h2
theorem ch_len0 : ∀ ls, ls < 20 → f_J0_length_8abf5 0 ls = some (nI (kLen.getD ls 0)) := by decide +kernel
theorem ch_len {N ls : Nat} (h : ls < 20) : f_J0_length_8abf5 N ls = some (nI (kLen.getD ls 0)) := ch_len0 ls h
/-- the class's walk over a list of words -/
def wm (B : Nat → Nat) (s sg : Nat) : List Nat → Nat → Option Nat → Int32
  | [], w, a => if a = some sg ∧ 0 < sg then nI w else -1
  | c :: r, w, a => if c = 32 then (if a = some sg ∧ 0 < sg then nI w else wm B s sg r (w + 1) (some 0)) else match a with
    | some k => if k < sg ∧ c = B (s + k) then wm B s sg r w (some (k + 1)) else wm B s sg r w none
    | none => wm B s sg r w none
def aI (a : Option Nat) : Int32 := a.elim (-1) (fun k => nI k)
theorem aI_eq {a : Option Nat} {sg : Nat} (hs : sg ≤ 400) (ha : ∀ k, a = some k → k ≤ 400) : (aI a = nI sg) ↔ a = some sg := by
  cases a with
  | none => exact ⟨fun q => absurd q.symm (nI_m1 (by omega)), fun q => by cases q⟩
  | some k =>
    have := ha k rfl
    show nI k = nI sg ↔ _
    rw [nI_eq (by omega) (by omega)]
    exact ⟨fun q => by rw [q], fun q => by cases q; rfl⟩
theorem x_wm {N : Nat} (S : St) (V : Vt) {B : Nat → Nat} {s sg ls : Nat} (hls : ls < 20) (hs : s + sg ≤ 400) (h6 : V.1 37 6 = nI s) (hB : ∀ i, i < sg → V.2.1 38 (s + i) = nI (B (s + i)) ∧ B (s + i) < 256) : ∀ k i w a, i + k = kLen.getD ls 0 → w + k < 1000 → (∀ j, a = some j → j ≤ sg) → ∀ m, k + 1 < m → f_X5_wordIn_18 N S V 37 ls m (nI sg) (nI w) (aI a) (nI i) = some (wm B s sg ((List.range k).map (fun j => chN ls (i + j))) w a) := by
  have l52 : kLen.getD ls 0 ≤ 52 := by
    have h52 : ∀ ls, ls < 20 → kLen.getD ls 0 ≤ 52 := by decide +kernel
    exact h52 ls hls
  have e47 : ∀ (K : Int32 → Int32 → Int32 → Int32 → Option Int32) w a i, w < 1000 → (∀ j, a = some j → j ≤ sg) → i < 100 → f_X5_wordIn_47 N S V 37 ls K (nI sg) (nI w) (aI a) (nI i) = if a = some sg ∧ 0 < sg then some (nI w) else K (nI sg) (nI (w + 1)) (nI 0) (nI (i + 1)) := by
    intro K w a i hw ha hi
    unfold f_X5_wordIn_47 f_X5_wordIn_59 f_X5_wordIn_110
    rw [nI_1, pl_bd, nI_1, pl_bd]
    by_cases c : a = some sg
    · rw [if_pos ((aI_eq (by omega) (fun k hk => by have := ha k hk; omega)).mpr c)]
      by_cases z : 0 < sg
      · rw [if_neg (nI_nle z (by omega)), if_pos ⟨c, z⟩]
      · rw [if_pos (by rw [show sg = 0 by omega]; decide), if_neg (fun q => z q.2)]; rfl
    · rw [if_neg (fun q => c ((aI_eq (by omega) (fun k hk => by have := ha k hk; omega)).mp q)), if_neg (fun q => c q.1)]; rfl
  intro k
  induction k with
  | zero =>
    intro i w a hi hw ha m hm
    obtain ⟨m, rfl⟩ : ∃ m', m = m' + 2 := ⟨m - 2, by omega⟩
    have e : i = kLen.getD ls 0 := by omega
    rw [f_X5_wordIn_18, ch_len hls, pl_ob1, if_neg (by rw [nI_T (by omega) (by omega)]; omega), pl_ob1, if_pos (by rw [e]), e47 _ w a i (by omega) ha (by omega)]
    show _ = some (wm B s sg [] w a)
    unfold wm
    by_cases c : a = some sg ∧ 0 < sg
    · rw [if_pos c, if_pos c]
    · rw [if_neg c, if_neg c, f_X5_wordIn_18, ch_len hls, pl_ob1, if_pos (by rw [nI_T (by omega) (by omega)]; omega)]
  | succ k ih =>
    intro i w a hi hw ha m hm
    obtain ⟨m, rfl⟩ : ∃ m', m = m' + 1 := ⟨m - 1, by omega⟩
    obtain ⟨ce, c128⟩ := ch_at (N := N) hls (show i < kLen.getD ls 0 by omega)
    have dl : (List.range (k + 1)).map (fun j => chN ls (i + j)) = chN ls i :: (List.range k).map (fun j => chN ls (i + 1 + j)) := by
      rw [List.range_succ_eq_map, List.map_cons, List.map_map]
      congr 1
      apply List.map_congr_left
      intro j _
      show chN ls (i + (j + 1)) = chN ls (i + 1 + j)
      congr 1; omega
    rw [dl, f_X5_wordIn_18, ch_len hls, pl_ob1, if_neg (by rw [nI_T (by omega) (by omega)]; omega), pl_ob1, if_neg (by rw [nI_E (by omega) (by omega)]; omega), ce, pl_ob1]
    unfold wm
    by_cases c32 : chN ls i = 32
    · rw [if_pos (by rw [c32]; rfl), if_pos c32, e47 _ w a i (by omega) ha (by omega)]
      by_cases c : a = some sg ∧ 0 < sg
      · rw [if_pos c, if_pos c]
      · rw [if_neg c, if_neg c]
        exact ih (i + 1) (w + 1) (some 0) (by omega) (by omega) (fun j hj => by cases hj; omega) m (by omega)
    · rw [if_neg (by rw [lj 32, nI_E (by omega) (by omega)]; exact c32), if_neg c32]
      have no : f_X5_wordIn_107 N S V 37 ls (f_X5_wordIn_18 N S V 37 ls m) (nI sg) (nI w) (nI i) = some (wm B s sg ((List.range k).map (fun j => chN ls (i + 1 + j))) w none) := by
        unfold f_X5_wordIn_107 f_X5_wordIn_110
        rw [nI_1, pl_bd]
        exact ih (i + 1) w none (by omega) (by omega) (fun j hj => by cases hj) m (by omega)
      cases a with
      | none =>
        rw [if_pos (show aI none = -1 from rfl), no]
      | some q =>
        have hq := ha q rfl
        rw [if_neg (show ¬ aI (some q) = -1 from nI_m1 (by omega))]
        show (if nI sg ≤ nI q then _ else _) = some (if q < sg ∧ chN ls i = B (s + q) then _ else _)
        by_cases h1 : sg ≤ q
        · rw [if_pos (by rw [nI_L (by omega) (by omega)]; exact h1), if_neg (by omega), no]
        · obtain ⟨b1, b2⟩ := hB q (by omega)
          rw [if_neg (by rw [nI_L (by omega) (by omega)]; exact h1), h6]
          show ck (nI s + nI q) 400 (if nI (chN ls i) = V.2.1 38 (nI s + nI q).toNatClampNeg then _ else _) = _
          rw [nI_add, pl_ck (by omega) (by omega), nI_cl (by omega), b1]
          by_cases h2 : chN ls i = B (s + q)
          · rw [if_pos (by rw [h2]), if_pos ⟨by omega, h2⟩]
            show bd (nI q + 1) _ = _
            rw [nI_1, pl_bd]
            unfold f_X5_wordIn_110
            rw [nI_1, pl_bd]
            exact ih (i + 1) w (some (q + 1)) (by omega) (by omega) (fun j hj => by cases hj; omega) m (by omega)
          · rw [if_neg (by rw [nI_E (by omega) (by omega)]; exact h2), if_neg (fun z => h2 z.2), no]
theorem wm_n (B : Nat → Nat) (s sg c : Nat) (r : List Nat) (w : Nat) (h : c ≠ 32) : wm B s sg (c :: r) w none = wm B s sg r w none := by
  show (if c = 32 then _ else _) = _
  rw [if_neg h]
theorem wm_s (B : Nat → Nat) (s sg c : Nat) (r : List Nat) (w k : Nat) (h : c ≠ 32) : wm B s sg (c :: r) w (some k) = if k < sg ∧ c = B (s + k) then wm B s sg r w (some (k + 1)) else wm B s sg r w none := by
  show (if c = 32 then _ else _) = _
  rw [if_neg h]
/-- one word of the list -/
theorem wm_word (B : Nat → Nat) (s sg : Nat) (rest : List Nat) (j : Nat) : ∀ (w : List Nat) (q : Nat), (∀ c, c ∈ w → c ≠ 32) → q ≤ sg → wm B s sg (w ++ rest) j (some q) = if q + w.length ≤ sg ∧ (∀ i, i < w.length → w.getD i 0 = B (s + q + i)) then wm B s sg rest j (some (q + w.length)) else wm B s sg (w.drop w.length ++ rest) j none := by
  intro w
  induction w with
  | nil => intro q _ hq; rw [if_pos ⟨by simpa using hq, fun i hi => absurd hi (Nat.not_lt_zero i)⟩]; rfl
  | cons c r ih =>
    intro q hc hq
    have h32 : c ≠ 32 := hc c List.mem_cons_self
    have dn : ∀ (l : List Nat), (∀ c, c ∈ l → c ≠ 32) → wm B s sg (l ++ rest) j none = wm B s sg rest j none := by
      intro l
      induction l with
      | nil => intro _; rfl
      | cons d l ihl =>
        intro hd
        show wm B s sg (d :: (l ++ rest)) j none = _
        rw [wm_n _ _ _ _ _ _ (hd d List.mem_cons_self)]
        exact ihl (fun x hx => hd x (List.mem_cons_of_mem _ hx))
    show wm B s sg (c :: (r ++ rest)) j (some q) = _
    rw [List.drop_length, wm_s _ _ _ _ _ _ _ h32]
    by_cases h1 : q < sg ∧ c = B (s + q)
    · rw [if_pos h1, ih (q + 1) (fun x hx => hc x (List.mem_cons_of_mem _ hx)) (by omega), List.drop_length]
      by_cases h2 : q + 1 + r.length ≤ sg ∧ ∀ i, i < r.length → r.getD i 0 = B (s + (q + 1) + i)
      · rw [if_pos h2, if_pos]
        · rw [show q + (c :: r).length = q + 1 + r.length by simp only [List.length_cons]; omega]
        · refine ⟨by simp only [List.length_cons]; omega, fun i hi => ?_⟩
          cases i with
          | zero => exact h1.2
          | succ i =>
            have := h2.2 i (by simp only [List.length_cons] at hi; omega)
            rw [show s + q + (i + 1) = s + (q + 1) + i by omega, ← this]; rfl
      · rw [if_neg h2, if_neg]
        intro h3
        apply h2
        refine ⟨by have := h3.1; simp only [List.length_cons] at this; omega, fun i hi => ?_⟩
        have := h3.2 (i + 1) (by simp only [List.length_cons]; omega)
        rw [show s + (q + 1) + i = s + q + (i + 1) by omega, ← this]; rfl
    · rw [if_neg h1, dn r (fun x hx => hc x (List.mem_cons_of_mem _ hx)), if_neg]
      · rfl
      · intro h3
        apply h1
        refine ⟨by have := h3.1; simp only [List.length_cons] at this; omega, ?_⟩
        exact h3.2 0 (by simp)
def wfind (tk : List Nat) : List (List Nat) → Nat → Int32
  | [], _ => -1
  | w :: r, j => if tk = w then nI j else wfind tk r (j + 1)
def joinW : List (List Nat) → List Nat
  | [] => []
  | [w] => w
  | w :: v :: r => w ++ 32 :: joinW (v :: r)
theorem wm_end (B : Nat → Nat) (s sg : Nat) (w rest : List Nat) (j : Nat) (hw : ∀ c, c ∈ w → c ≠ 32) (h0 : w ≠ []) (X : Int32) (h1 : ∀ a, wm B s sg rest j a = if a = some sg ∧ 0 < sg then nI j else X) : wm B s sg (w ++ rest) j (some 0) = if tkn B s sg = w then nI j else X := by
  have hl : 0 < w.length := by
    cases w with
    | nil => exact absurd rfl h0
    | cons => simp
  rw [wm_word B s sg rest j w 0 hw (by omega), List.drop_length]
  show _ = _
  by_cases h : 0 + w.length ≤ sg ∧ ∀ i, i < w.length → w.getD i 0 = B (s + 0 + i)
  · rw [if_pos h, h1]
    by_cases e : w.length = sg
    · rw [if_pos ⟨by rw [Nat.zero_add, e], by omega⟩, if_pos ((tkn_eq B s sg w).mpr ⟨e, fun i hi => h.2 i (by omega)⟩)]
    · rw [if_neg (fun q => e (by have := Option.some.inj q.1; omega)), if_neg (fun q => e ((tkn_eq B s sg w).mp q).1)]
  · rw [if_neg h]
    show wm B s sg rest j none = _
    rw [h1, if_neg (fun q => by cases q.1), if_neg]
    intro q
    obtain ⟨q1, q2⟩ := (tkn_eq B s sg w).mp q
    exact h ⟨by omega, fun i hi => q2 i (by omega)⟩
theorem wm_join (B : Nat → Nat) (s sg : Nat) : ∀ (ws : List (List Nat)) (j : Nat), ws ≠ [] → (∀ w, w ∈ ws → w ≠ [] ∧ ∀ c, c ∈ w → c ≠ 32) → wm B s sg (joinW ws) j (some 0) = wfind (tkn B s sg) ws j := by
  intro ws
  induction ws with
  | nil => intro j h; exact absurd rfl h
  | cons w r ih =>
    intro j _ hw
    obtain ⟨w0, w32⟩ := hw w List.mem_cons_self
    cases r with
    | nil =>
      show wm B s sg w j (some 0) = if tkn B s sg = w then nI j else -1
      have := wm_end B s sg w [] j w32 w0 (-1) (fun a => rfl)
      rw [List.append_nil] at this
      exact this
    | cons v r =>
      show wm B s sg (w ++ 32 :: joinW (v :: r)) j (some 0) = if tkn B s sg = w then nI j else wfind (tkn B s sg) (v :: r) (j + 1)
      refine wm_end B s sg w _ j w32 w0 _ (fun a => ?_)
      show (if 32 = 32 then (if a = some sg ∧ 0 < sg then nI j else wm B s sg (joinW (v :: r)) (j + 1) (some 0)) else _) = _
      rw [if_pos rfl, ih (j + 1) (by simp) (fun x hx => hw x (List.mem_cons_of_mem _ hx))]
end
