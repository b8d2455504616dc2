section
/-! pieces of both out of smaller pieces -/
theorem opS_ne {s : Nat} {x y z : Int32} (h : opS s x y = some z) : z ≠ MNV := by
  unfold opS at h
  cases ho : opV s x.toInt64 y.toInt64 with
  | none => rw [ho] at h; cases h
  | some w =>
    rw [ho] at h
    have h' : bdV w = some z := h
    unfold bdV at h'
    by_cases c : 1000000000 < w ∨ w < -1000000000
    · rw [if_pos c] at h'; cases h'
    · rw [if_neg c] at h'
      have hz : w.toInt32 = z := Option.some.inj h'
      have e := b32_64 w (fun q => c (Or.inl q)) (fun q => c (Or.inr q))
      intro q
      rw [← hz] at q
      rw [q] at e
      have h2 : ¬ w < -1000000000 := fun q => c (Or.inr q)
      rw [← e, Int64.lt_iff_toInt_lt] at h2
      exact h2 (by decide)
theorem JS_c {mode lev : Nat} {C C' : Nat → Int32} {p q : Nat} {T U : Nat → Int32} {n t u dc dm : Nat} (h : ∀ i, p ≤ i → i < q → C' i = C i) (j : JS mode lev C p q T U n t u dc dm) : JS mode lev C' p q T U n t u dc dm := fun W hW => by
  obtain ⟨v, h1, h2, h3⟩ := j W hW
  exact ⟨v, CE_c h h1, h2, h3⟩
theorem JT_c {mode lev : Nat} {C C' : Nat → Int32} {p q : Nat} {T U : Nat → Int32} {n t u dc dm : Nat} (h : ∀ i, p ≤ i → i < q → C' i = C i) (j : JT mode lev C p q T U n t u dc dm) : JT mode lev C' p q T U n t u dc dm := fun W hW => by
  obtain ⟨v, h1, h2⟩ := j W hW
  exact ⟨v, CE_c h h1, h2⟩
def JSs (mode : Nat) (C : Nat → Int32) (p q : Nat) (T U : Nat → Int32) (n t u dep : Nat) : Prop := ∀ W, WB W → ∃ v : Option Int32, CE C W (lwm mode) p q (3 + 2 * (8 - dep)) v ∧ MC mode T U n W t u (3 * (9 - dep) - 1) v ∧ ∀ x, v = some x → x ≠ MNV
def JSt (mode : Nat) (C : Nat → Int32) (p q : Nat) (T U : Nat → Int32) (n t u dep : Nat) : Prop := ∀ W, WB W → ∃ v : Option Int32, CE C W (lwm mode) p q (2 + 2 * (8 - dep)) v ∧ MD mode T U n W t u (3 * (9 - dep) - 2) v ∧ ∀ x, v = some x → x ≠ MNV
section J
variable {mode : Nat} {C C' T U : Nat → Int32} {p q r n t u w dep s : Nat}
theorem JSs_c (h : ∀ i, p ≤ i → i < q → C' i = C i) (j : JSs mode C p q T U n t u dep) : JSs mode C' p q T U n t u dep := fun W hW => by
  obtain ⟨v, h1, h2, h3⟩ := j W hW
  exact ⟨v, CE_c h h1, h2, h3⟩
theorem JSt_c (h : ∀ i, p ≤ i → i < q → C' i = C i) (j : JSt mode C p q T U n t u dep) : JSt mode C' p q T U n t u dep := fun W hW => by
  obtain ⟨v, h1, h2, h3⟩ := j W hW
  exact ⟨v, CE_c h h1, h2, h3⟩
theorem bd_ne {v v2 : Option Int32} {s : Nat} : ∀ x, (v.bind fun x => v2.bind fun y => opS s x y) = some x → x ≠ MNV := by
  intro z hz
  cases v with
  | none => cases hz
  | some x => cases v2 with
    | none => cases hz
    | some y => exact opS_ne hz
theorem JSs_first (j : JS mode 1 C p q T U n t u (2 + 2 * (8 - dep)) (3 * (9 - dep) - 1)) : JSs mode C p q T U n t u dep := fun W hW => by
  obtain ⟨v, h1, h2, h3⟩ := j W hW
  exact ⟨v, CE_d (by omega) h1, MC_first h2, h3⟩
theorem JSs_step (j : JSs mode C p q T U n t u dep) (k : JS mode 1 C q r T U n (u + 1) w (2 + 2 * (8 - dep)) (3 * (9 - dep) - 1)) (hc : C r = nI s) (hs : (s = 3 ∧ T u = nI 143) ∨ (s = 4 ∧ T u = nI 145)) : JSs mode C p (r + 1) T U n t w dep := fun W hW => by
  obtain ⟨v, h1, h2, h3⟩ := j W hW
  obtain ⟨v2, k1, k2, k3⟩ := k W hW
  exact ⟨_, CE_op (by omega) h1 k1 hc (Nat.le_refl _) (by omega) (by omega), MC_step h2 k2 hs, bd_ne⟩
theorem JSs_done (hd : dep ≤ 8) (j : JSs mode C p q T U n t u dep) (h1 : ¬ ctk T n u = nI 143) (h2 : ¬ ctk T n u = nI 145) : JS mode 0 C p q T U n t u (3 + 2 * (8 - dep)) (3 * (9 - dep)) := fun W hW => by
  obtain ⟨v, a, b, c⟩ := j W hW
  exact ⟨v, a, ME_D (by omega) (MC_done b h1 h2), c⟩
theorem JSt_first (j : JS mode 2 C p q T U n t u (1 + 2 * (8 - dep)) (3 * (9 - dep) - 2)) : JSt mode C p q T U n t u dep := fun W hW => by
  obtain ⟨v, h1, h2, h3⟩ := j W hW
  exact ⟨v, CE_d (by omega) h1, MD_first h2, h3⟩
theorem JSt_step (j : JSt mode C p q T U n t u dep) (k : JS mode 2 C q r T U n (u + 1) w (1 + 2 * (8 - dep)) (3 * (9 - dep) - 2)) (hc : C r = nI s) (hs : (s = 5 ∧ T u = nI 142) ∨ (s = 6 ∧ T u = nI 147) ∨ (s = 7 ∧ T u = nI 137)) : JSt mode C p (r + 1) T U n t w dep := fun W hW => by
  obtain ⟨v, h1, h2, h3⟩ := j W hW
  obtain ⟨v2, k1, k2, k3⟩ := k W hW
  exact ⟨_, CE_op (by omega) h1 k1 hc (Nat.le_refl _) (by omega) (by omega), MD_step h2 k2 hs, bd_ne⟩
theorem JSt_done (hd : dep ≤ 8) (j : JSt mode C p q T U n t u dep) (h1 : ¬ ctk T n u = nI 142) (h2 : ¬ ctk T n u = nI 147) (h3 : ¬ ctk T n u = nI 137) : JS mode 1 C p q T U n t u (2 + 2 * (8 - dep)) (3 * (9 - dep) - 1) := fun W hW => by
  obtain ⟨v, a, b, c⟩ := j W hW
  exact ⟨v, a, ME_D (by omega) (MD_done b h1 h2 h3), c⟩
theorem J_br (hd : dep < 8) (j : JS mode 0 C p q T U n (t + 1) u (3 + 2 * (8 - (dep + 1))) (3 * (9 - (dep + 1)))) (hT : T t = nI 191) (hu : u < n) : JS mode 2 C p q T U n t (u + 1) (1 + 2 * (8 - dep)) (3 * (9 - dep) - 2) := fun W hW => by
  obtain ⟨v, a, b, c⟩ := j W hW
  exact ⟨v, CE_d (by omega) a, ME_D (by omega) (ME_br b hT hu), c⟩
theorem J_num {k : Nat} (ht : t < n) (hT : T t = nI 50) (hU : U t = nI k) (hk : k ≤ 1000) (hc : C p = nI (1 + 256 * k)) (hd : dep ≤ 8) : JS mode 2 C p (p + 1) T U n t (t + 1) (1 + 2 * (8 - dep)) (3 * (9 - dep) - 2) := fun W hW =>
  ⟨some (nI k), CE_d (by omega) (CE_num (by omega) hc), ME_D (by omega) (ME_num ht hT hU hk), fun x hx => by cases hx; exact MNV_ne k (by omega)⟩
theorem J_lw {k a : Nat} (ht : t < n) (hT : T t = nI (9 + k)) (hk : k < 10) (ha : wl k = a) (ha2 : a < 10) (hc : C p = nI (2 + 256 * a)) (hd : dep ≤ 8) : JS 0 2 C p (p + 1) T U n t (t + 1) (1 + 2 * (8 - dep)) (3 * (9 - dep) - 2) := fun W hW =>
  ⟨some (W a), CE_d (by omega) (CE_word (by show a < 10; omega) (by show 10 < 20000; omega) hc), ME_D (D := 1) (by omega) (by have := ME_lw (W := W) (U := U) ht hT hk; rw [ha] at this; exact this), fun x hx => by cases hx; exact hW a⟩
theorem J_o1 {c a : Nat} (ht : t < n) (hT : T t = nI c) (hcc : c = 18 ∨ c = 19 ∨ c = 20) (ha : a = c - 18) (hc : C p = nI (2 + 256 * a)) (hd : dep ≤ 8) : JS 1 2 C p (p + 1) T U n t (t + 1) (1 + 2 * (8 - dep)) (3 * (9 - dep) - 2) := fun W hW =>
  ⟨some (W a), CE_d (by omega) (CE_word (by show a < 43; omega) (by show 43 < 20000; omega) hc), ME_D (D := 1) (by omega) (by
    have := ME_o1 (W := W) (U := U) ht hT hcc
    have e : wo c 0 = a := by rcases hcc with rfl | rfl | rfl <;> subst ha <;> rfl
    rw [e] at this; exact this), fun x hx => by cases hx; exact hW a⟩
theorem J_o2 {c k a : Nat} (ht : t + 1 < n) (hT : T t = nI c) (hU : U (t + 1) = nI k) (hcc : (c = 15 ∧ k < 25) ∨ ((c = 16 ∨ c = 17 ∨ c = 21) ∧ k < 5)) (ha : wo c k = a) (hc : C p = nI (2 + 256 * a)) (hd : dep ≤ 8) : JS 1 2 C p (p + 1) T U n t (t + 2) (1 + 2 * (8 - dep)) (3 * (9 - dep) - 2) := fun W hW => by
  have a43 : a < 43 := by
    rw [← ha]; unfold wo
    rcases hcc with ⟨rfl, h⟩ | ⟨rfl | rfl | rfl, h⟩
    · rw [if_pos rfl]; omega
    · rw [if_neg (by omega), if_pos rfl]; omega
    · rw [if_neg (by omega), if_neg (by omega), if_pos rfl]; omega
    · rw [if_neg (by omega), if_neg (by omega), if_neg (by omega), if_pos rfl]; omega
  exact ⟨some (W a), CE_d (by omega) (CE_word (by show a < 43; omega) (by show 43 < 20000; omega) hc), ME_D (D := 1) (by omega) (by
    have := ME_o2 (W := W) ht hT hU hcc
    rw [ha] at this; exact this), fun x hx => by cases hx; exact hW a⟩
/-! tests -/
def JTo (mode : Nat) (C : Nat → Int32) (p q : Nat) (T U : Nat → Int32) (n t u dep : Nat) : Prop := ∀ W, WB W → ∃ v : Option Bool, CE C W (lwm mode) p q (4 + 2 * (8 - dep)) (v.map bI) ∧ MO mode T U n W t u (4 * (9 - dep) - 1) v
def JTa (mode : Nat) (C : Nat → Int32) (p q : Nat) (T U : Nat → Int32) (n t u dep : Nat) : Prop := ∀ W, WB W → ∃ v : Option Bool, CE C W (lwm mode) p q (4 + 2 * (8 - dep)) (v.map bI) ∧ MA mode T U n W t u (4 * (9 - dep) - 2) v
theorem JTo_c (h : ∀ i, p ≤ i → i < q → C' i = C i) (j : JTo mode C p q T U n t u dep) : JTo mode C' p q T U n t u dep := fun W hW => by
  obtain ⟨v, h1, h2⟩ := j W hW
  exact ⟨v, CE_c h h1, h2⟩
theorem JTa_c (h : ∀ i, p ≤ i → i < q → C' i = C i) (j : JTa mode C p q T U n t u dep) : JTa mode C' p q T U n t u dep := fun W hW => by
  obtain ⟨v, h1, h2⟩ := j W hW
  exact ⟨v, CE_c h h1, h2⟩
theorem JTo_first (j : JT mode 1 C p q T U n t u (4 + 2 * (8 - dep)) (4 * (9 - dep) - 1)) : JTo mode C p q T U n t u dep := fun W hW => by
  obtain ⟨v, h1, h2⟩ := j W hW
  exact ⟨v, h1, MO_first h2⟩
theorem JTo_step (hr : r < 8000000) (j : JTo mode C p q T U n t u dep) (k : JT mode 1 C (q + 1) r T U n (u + 1) w (4 + 2 * (8 - dep)) (4 * (9 - dep) - 1)) (hc : C q = nI (13 + 256 * r)) (hT : T u = nI 6) : JTo mode C p r T U n t w dep := fun W hW => by
  obtain ⟨v, h1, h2⟩ := j W hW
  obtain ⟨v2, k1, k2⟩ := k W hW
  exact ⟨_, CE_jump (by omega) (Or.inr ⟨rfl, rfl⟩) hr h1 k1 hc, MO_step h2 k2 hT⟩
theorem JTo_done (hd : dep ≤ 8) (j : JTo mode C p q T U n t u dep) (h1 : ¬ ctk T n u = nI 6) : JT mode 0 C p q T U n t u (4 + 2 * (8 - dep)) (4 * (9 - dep)) := fun W hW => by
  obtain ⟨v, a, b⟩ := j W hW
  exact ⟨v, a, MT_D (by omega) (MO_done b h1)⟩
theorem JTa_first (j : JT mode 2 C p q T U n t u (4 + 2 * (8 - dep)) (4 * (9 - dep) - 2)) : JTa mode C p q T U n t u dep := fun W hW => by
  obtain ⟨v, h1, h2⟩ := j W hW
  exact ⟨v, h1, MA_first h2⟩
theorem JTa_step (hr : r < 8000000) (j : JTa mode C p q T U n t u dep) (k : JT mode 2 C (q + 1) r T U n (u + 1) w (4 + 2 * (8 - dep)) (4 * (9 - dep) - 2)) (hc : C q = nI (12 + 256 * r)) (hT : T u = nI 7) : JTa mode C p r T U n t w dep := fun W hW => by
  obtain ⟨v, h1, h2⟩ := j W hW
  obtain ⟨v2, k1, k2⟩ := k W hW
  exact ⟨_, CE_jump (by omega) (Or.inl ⟨rfl, rfl⟩) hr h1 k1 hc, MA_step h2 k2 hT⟩
theorem JTa_done (hd : dep ≤ 8) (j : JTa mode C p q T U n t u dep) (h1 : ¬ ctk T n u = nI 7) : JT mode 1 C p q T U n t u (4 + 2 * (8 - dep)) (4 * (9 - dep) - 1) := fun W hW => by
  obtain ⟨v, a, b⟩ := j W hW
  exact ⟨v, a, MT_D (by omega) (MA_done b h1)⟩
theorem JT_not (hd : dep ≤ 8) (htu : t ≤ u) (hT : ∀ j, t ≤ j → j < u → T j = nI 8) (hu : ¬ T u = nI 8) (j : JT mode 3 C p q T U n u w (4 + 2 * (8 - dep)) (4 * (9 - dep) - 3)) (hr : ((u - t) % 2 = 1 ∧ C q = nI 11 ∧ r = q + 1) ∨ (¬ (u - t) % 2 = 1 ∧ r = q)) : JT mode 2 C p r T U n t w (4 + 2 * (8 - dep)) (4 * (9 - dep) - 2) := fun W hW => by
  obtain ⟨v, a, b⟩ := j W hW
  refine ⟨v.map (flp (u - t)), ?_, MT_D (by omega) (MN_not htu hT b hu)⟩
  rcases hr with ⟨h1, h2, rfl⟩ | ⟨h1, rfl⟩
  · have e : v.map (flp (u - t)) = v.map (fun b => !b) := by
      congr 1; funext b; unfold flp; rw [if_pos h1]
    rw [e]
    exact CE_not (by omega) a h2
  · have e : v.map (flp (u - t)) = v := by
      cases v with
      | none => rfl
      | some bb => show some (flp (u - t) bb) = some bb; unfold flp; rw [if_neg h1]
    rw [e]; exact a
theorem JT_br (hd : dep < 8) (j : JT mode 0 C p q T U n (t + 1) u (4 + 2 * (8 - (dep + 1))) (4 * (9 - (dep + 1)))) (hT : T t = nI 140) (hu : u < n) : JT mode 3 C p q T U n t (u + 1) (4 + 2 * (8 - dep)) (4 * (9 - dep) - 3) := fun W hW => by
  obtain ⟨v, a, b⟩ := j W hW
  exact ⟨v, CE_d (by omega) a, MT_D (by omega) (MP_br b hT hu)⟩
theorem JT_cmp (hd : dep ≤ 8) (j : JS mode 0 C p q T U n t u (3 + 2 * (8 - dep)) (3 * (9 - dep))) (k : JS mode 0 C q r T U n (u + 1) w (3 + 2 * (8 - dep)) (3 * (9 - dep))) (h0 : ¬ T t = nI 140) (hc : C r = nI s) (hs : (s = 8 ∧ T u = nI 160) ∨ (s = 9 ∧ T u = nI 162) ∨ (s = 10 ∧ T u = nI 161)) : JT mode 3 C p (r + 1) T U n t w (4 + 2 * (8 - dep)) (4 * (9 - dep) - 3) := fun W hW => by
  obtain ⟨v, h1, h2, -⟩ := j W hW
  obtain ⟨v2, k1, k2, -⟩ := k W hW
  refine ⟨v.bind fun x => v2.map fun y => cmpB s x y, ?_, MT_D (by omega) (MP_cmp (by omega) h2 k2 h0 hs)⟩
  have e : (v.bind fun x => v2.map fun y => cmpB s x y).map bI = v.bind fun x => v2.bind fun y => opS s x y := by
    cases v with
    | none => rfl
    | some x => cases v2 with
      | none => rfl
      | some y => show some (bI (cmpB s x y)) = opS s x y; rw [opS_cmp (by omega)]
  rw [e]
  exact CE_op (by omega) h1 k1 hc (by omega) (by omega) (by omega)
end J
end
