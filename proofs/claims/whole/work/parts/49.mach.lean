/-! what the class's machine finds: pieces of code -/
def MNV : Int32 := -2000000000
def opV (s : Nat) (x y : Int64) : Option Int64 := if s = 3 then some (x + y) else if s = 4 then some (x - y) else if s = 5 then some (x * y) else if s = 6 then (if y = 0 then none else some (x / y)) else if s = 7 then (if y = 0 then none else some (x - x / y * y)) else if s = 8 then some (if x < y then 1 else 0) else if s = 9 then some (if y < x then 1 else 0) else some (if x = y then 1 else 0)
def bdV (w : Int64) : Option Int32 := if 1000000000 < w ∨ w < -1000000000 then none else some w.toInt32
def opS (s : Nat) (x y : Int32) : Option Int32 := (opV s x.toInt64 y.toInt64).bind bdV
def MSt (o : Nat) (V V' : Vt) (h : Nat) : Prop := V'.2.2 = V.2.2 ∧ (∀ g, g ≠ o + 1 → V'.2.1 g = V.2.1 g) ∧ (∀ g j, ¬ (g = o ∧ j = 1) → V'.1 g j = V.1 g j) ∧ ∀ k, k < h → V'.2.1 (o + 1) k = V.2.1 (o + 1) k
theorem MSt_t {o : Nat} {V V1 V2 : Vt} {h h2 : Nat} (a : MSt o V V1 h) (b : MSt o V1 V2 h2) (hh : h ≤ h2) : MSt o V V2 h := ⟨b.1.trans a.1, fun g hg => (b.2.1 g hg).trans (a.2.1 g hg), fun g j hg => (b.2.2.1 g j hg).trans (a.2.2.1 g j hg), fun k hk => (b.2.2.2 k (by omega)).trans (a.2.2.2 k hk)⟩
theorem MSt_r (o : Nat) (V : Vt) (h : Nat) : MSt o V V h := ⟨rfl, fun _ _ => rfl, fun _ _ _ => rfl, fun _ _ => rfl⟩
theorem MSt_F {o : Nat} {V V1 : Vt} {h : Nat} (a : MSt o V V1 h) (x : Int32) : MSt o V (sF V1 o 1 x) h := ⟨a.1, a.2.1, fun g j hg => by rw [sF_o _ _ _ _ _ _ hg]; exact a.2.2.1 g j hg, a.2.2.2⟩
theorem MSt_A {o : Nat} {V V1 : Vt} {h : Nat} (a : MSt o V V1 h) (k : Nat) (hk : h ≤ k) (x : Int32) : MSt o V (sA V1 (o + 1) k x) h := ⟨a.1, fun g hg => by rw [sA_n _ _ _ _ _ hg]; exact a.2.1 g hg, a.2.2.1, fun j hj => by rw [sA_e, upd_n _ _ _ _ (by omega)]; exact a.2.2.2 j hj⟩
/-- what stands around a run of the machine -/
def CX (S : St) (o a1 a3 : Nat) (V : Vt) (h : Nat) (C W : Nat → Int32) (L Lw p q : Nat) : Prop := (a1 ≠ o + 1 ∧ a3 ≠ o + 1 ∧ S.2.2.1 a1 = L ∧ S.2.2.1 a3 = Lw) ∧ (q ≤ L ∧ L < 20000 ∧ Lw < 20000) ∧ (∀ i, p ≤ i → i < q → V.2.1 a1 i = C i) ∧ (∀ i, i < Lw → V.2.1 a3 i = W i) ∧ V.1 o 1 = nI h
def CE (C W : Nat → Int32) (Lw p q d : Nat) (v : Option Int32) : Prop := p ≤ q ∧ ∀ (N : Nat) (S : St) (o a1 a3 : Nat) (V : Vt) (h L : Nat), CX S o a1 a3 V h C W L Lw p q → h + d ≤ 40 →
  (∀ x, v = some x → ∃ V', MSt o V V' h ∧ V'.1 o 1 = nI (h + 1) ∧ V'.2.1 (o + 1) h = x ∧ ∀ n g, g ≤ p → ∃ g', g' ≤ q ∧ f_X4_worthAt_19 N S o a1 a3 (n + (q - p)) V (nI g) (nI p) = f_X4_worthAt_19 N S o a1 a3 n V' (nI g') (nI q)) ∧
  (v = none → ∃ V', MSt o V V' h ∧ ∀ n g, g ≤ p → f_X4_worthAt_19 N S o a1 a3 (n + (q - p)) V (nI g) (nI p) = some (MNV, V'))
theorem CX_m {S : St} {o a1 a3 : Nat} {V V' : Vt} {h h' : Nat} {C W : Nat → Int32} {L Lw p q p' q' : Nat} (c : CX S o a1 a3 V h C W L Lw p q) (m : MSt o V V' 0) (hp : p ≤ p') (hq : q' ≤ q) (hh : V'.1 o 1 = nI h') : CX S o a1 a3 V' h' C W L Lw p' q' := by
  obtain ⟨⟨c1, c2, c3, c4⟩, ⟨c5, c6, c7⟩, c8, c9, -⟩ := c
  exact ⟨⟨c1, c2, c3, c4⟩, ⟨by omega, c6, c7⟩, fun i h1 h2 => by rw [m.2.1 a1 c1]; exact c8 i (by omega) (by omega), fun i hi => by rw [m.2.1 a3 c2]; exact c9 i hi, hh⟩
theorem MSt_0 {o : Nat} {V V' : Vt} {h : Nat} (m : MSt o V V' h) : MSt o V V' 0 := ⟨m.1, m.2.1, m.2.2.1, fun k hk => absurd hk (Nat.not_lt_zero k)⟩
/-- a word of code -/
theorem cw_lo {s w : Nat} (hs : s < 256) (hw : w < 8000000) : nI (s + 256 * w) &&& nI 255 = nI s := by
  have := pk_andN (n := s + 256 * w) (by omega) (m := nI 255) 8 rfl
  rw [this]; congr 1; omega
theorem cw_hi {s w : Nat} (hs : s < 256) (hw : w < 8000000) : nI (s + 256 * w) >>> (nI 8 &&& nI 31) = nI w := by
  have := pk_shrN (n := s + 256 * w) (by omega) (nI 8 &&& 31) 8 (s_l 8 (by omega))
  rw [show nI 31 = (31 : Int32) from rfl, this]; congr 1; omega
theorem x_push {N : Nat} (S : St) (V : Vt) (o h : Nat) (e : V.1 o 1 = nI h) (hh : h < 40) (x : Int32) : f_X4_push N S V o x = some (sF (sA V (o + 1) h x) o 1 (nI (h + 1))) := by
  have g : ¬ 40 ≤ h := by omega
  have e2 : (sA V (o + 1) h x).1 o 1 = nI h := e
  simp (disch := omega) only [f_X4_push, e, g, e2, pl_bd, pl_ob, pl_ob1, pl_obv, pl_oa, pl_oav, pl_cg, pl_cb0, pl_cb1, pl_nl0, pl_nls, li, nI_cl, pl_ck, nI_E, nI_L, nI_T, nI_add, pk_mul, nI_s1, Nat.zero_add, Nat.add_zero, Nat.reduceAdd, Nat.reduceMul, Nat.reduceSub, Nat.reduceEqDiff, Nat.reduceLeDiff, Nat.reduceLT, ↓reduceIte]
theorem CE_num {C W : Nat → Int32} {Lw p w : Nat} (hw : w < 8000000) (hc : C p = nI (1 + 256 * w)) : CE C W Lw p (p + 1) 1 (some (nI w)) := by
  refine ⟨by omega, fun N S o a1 a3 V h L c hd => ⟨fun x hx => ?_, fun hx => by cases hx⟩⟩
  cases hx
  obtain ⟨⟨c1, c2, c3, c4⟩, ⟨c5, c6, c7⟩, c8, c9, c10⟩ := c
  refine ⟨sF (sA V (o + 1) h (nI w)) o 1 (nI (h + 1)), MSt_F (MSt_A (MSt_r o V h) h (Nat.le_refl h) _) _, by rw [sF_e, upd_e], by rw [sF_2, sA_e, upd_e], fun n g hg => ⟨g, by omega, ?_⟩⟩
  have hc' : V.2.1 a1 p = nI (1 + 256 * w) := (c8 p (by omega) (by omega)).trans hc
  have g1 : ¬ L ≤ p := by omega
  have l1 := cw_lo (s := 1) (w := w) (by omega) hw
  have l2 := cw_hi (s := 1) (w := w) (by omega) hw
  have eL : Nat.toInt32 L = nI L := rfl
  rw [show n + (p + 1 - p) = n + 1 by omega, f_X4_worthAt_19]
  simp (disch := omega) only [c3, eL, g1, hg, hc', l1, l2, x_push S V o h c10, f_X4_worthAt_243, pl_bd, pl_ob, pl_ob1, pl_obv, pl_oa, pl_oav, pl_cg, pl_cb0, pl_cb1, pl_nl0, pl_nls, li, nI_cl, pl_ck, nI_E, nI_L, nI_T, nI_add, pk_mul, nI_s1, Nat.zero_add, Nat.add_zero, Nat.reduceAdd, Nat.reduceMul, Nat.reduceSub, Nat.reduceEqDiff, Nat.reduceLeDiff, Nat.reduceLT, ↓reduceIte]
theorem CE_word {C W : Nat → Int32} {Lw p w : Nat} (hw : w < Lw) (hL : Lw < 20000) (hc : C p = nI (2 + 256 * w)) : CE C W Lw p (p + 1) 1 (some (W w)) := by
  refine ⟨by omega, fun N S o a1 a3 V h L c hd => ⟨fun x hx => ?_, fun hx => by cases hx⟩⟩
  cases hx
  obtain ⟨⟨c1, c2, c3, c4⟩, ⟨c5, c6, c7⟩, c8, c9, c10⟩ := c
  refine ⟨sF (sA V (o + 1) h (W w)) o 1 (nI (h + 1)), MSt_F (MSt_A (MSt_r o V h) h (Nat.le_refl h) _) _, by rw [sF_e, upd_e], by rw [sF_2, sA_e, upd_e], fun n g hg => ⟨g, by omega, ?_⟩⟩
  have hc' : V.2.1 a1 p = nI (2 + 256 * w) := (c8 p (by omega) (by omega)).trans hc
  have g1 : ¬ L ≤ p := by omega
  have g2 : ¬ Lw ≤ w := by omega
  have l1 := cw_lo (s := 2) (w := w) (by omega) (by omega)
  have l2 := cw_hi (s := 2) (w := w) (by omega) (by omega)
  have eL : ∀ k, Nat.toInt32 k = nI k := fun _ => rfl
  have e9 := c9 w hw
  rw [show n + (p + 1 - p) = n + 1 by omega, f_X4_worthAt_19]
  simp (disch := omega) only [c3, c4, eL, g1, g2, hg, hc', l1, l2, e9, f_X4_worthAt_121, x_push S V o h c10, f_X4_worthAt_243, pl_bd, pl_ob, pl_ob1, pl_obv, pl_oa, pl_oav, pl_cg, pl_cb0, pl_cb1, pl_nl0, pl_nls, li, nI_cl, pl_ck, nI_E, nI_L, nI_T, nI_add, pk_mul, nI_s1, Nat.zero_add, Nat.add_zero, Nat.reduceAdd, Nat.reduceMul, Nat.reduceSub, Nat.reduceEqDiff, Nat.reduceLeDiff, Nat.reduceLT, ↓reduceIte]
