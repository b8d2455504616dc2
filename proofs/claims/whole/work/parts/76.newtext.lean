section
/-! a new text -/
theorem shpB_of {S : St} {o : Nat} {tab : Tb} (h : shp S o tab) : shpB S o tab = true := by
  unfold shpB
  refine List.all_eq_true.mpr fun i hi => ?_
  cases hx : tab[i]? with
  | none => rfl
  | some x =>
    obtain ⟨a1, a2, a3, a4⟩ := h i x hx
    simp only [Bool.and_eq_true, beq_iff_eq]
    refine ⟨Nat.ble_eq_true_of_le a1, a2, a3, List.all_eq_true.mpr fun j hj => ?_⟩
    cases hq : x.2.2[j]? with
    | none => rfl
    | some q => simp only [beq_iff_eq]; exact a4 j q hq
/-- older handles are as they were -/
def Old (S S' : St) : Prop := S.1 ≤ S'.1 ∧ ∀ g, g < S.1 → S'.2.1 g = S.2.1 g ∧ S'.2.2.1 g = S.2.2.1 g ∧ S'.2.2.2.1 g = S.2.2.2.1 g
theorem Old_t {S S1 S2 : St} (a : Old S S1) (b : Old S1 S2) : Old S S2 := ⟨Nat.le_trans a.1 b.1, fun g hg => ⟨(b.2 g (Nat.lt_of_lt_of_le hg a.1)).1.trans (a.2 g hg).1, (b.2 g (Nat.lt_of_lt_of_le hg a.1)).2.1.trans (a.2 g hg).2.1, (b.2 g (Nat.lt_of_lt_of_le hg a.1)).2.2.trans (a.2 g hg).2.2⟩⟩
theorem Old_shp {S S' : St} {o : Nat} {tab : Tb} (a : Old S S') (h : shp S o tab) : shp S' o tab := by
  intro i x hx
  obtain ⟨a1, a2, a3, a4⟩ := h i x hx
  obtain ⟨b1, b2, b3⟩ := a.2 _ a1
  exact ⟨Nat.lt_of_lt_of_le a1 a.1, b1.trans a2, b2.trans a3, fun j q hq => by rw [b3]; exact a4 j q hq⟩
theorem Old_O (S : St) (ci : Nat) : Old S (nwO S ci) := by
  refine ⟨Nat.le_succ _, fun g hg => ⟨?_, rfl, ?_⟩⟩
  · rw [nwO_k, if_neg (by omega)]
  · funext j; rw [nwO_p, if_neg (by omega)]
theorem Old_A (S : St) (k n : Nat) : Old S (nwA S k n) := by
  refine ⟨Nat.le_succ _, fun g hg => ⟨?_, ?_, rfl⟩⟩
  · rw [nwA_k, if_neg (by omega)]
  · rw [nwA_l, if_neg (by omega)]
theorem Old_P {S S1 : St} (h j q : Nat) (hh : S.1 ≤ h) (a : Old S S1) : Old S (stP S1 h j q) := by
  refine ⟨a.1, fun g hg => ⟨(a.2 g hg).1, (a.2 g hg).2.1, ?_⟩⟩
  funext i
  rw [stP_p, if_neg (by omega), (a.2 g hg).2.2]
def OldV (n : Nat) (V V' : Vt) : Prop := ∀ g, g < n → V'.1 g = V.1 g ∧ V'.2.1 g = V.2.1 g ∧ V'.2.2.2 g = V.2.2.2 g
theorem zV_o (V : Vt) (h g : Nat) (hg : g ≠ h) : (zV V h).1 g = V.1 g ∧ (zV V h).2.1 g = V.2.1 g ∧ (zV V h).2.2.2 g = V.2.2.2 g := ⟨va_up_ne _ _ hg, va_up_ne _ _ hg, va_up_ne _ _ hg⟩
theorem OldV_t {n m : Nat} {V V1 V2 : Vt} (a : OldV n V V1) (b : OldV m V1 V2) (h : n ≤ m) : OldV n V V2 := fun g hg => ⟨(b g (by omega)).1.trans (a g hg).1, (b g (by omega)).2.1.trans (a g hg).2.1, (b g (by omega)).2.2.trans (a g hg).2.2⟩
theorem OldV_z (V : Vt) (h : Nat) : OldV h V (zV V h) := fun g hg => zV_o V h g (by omega)
theorem OldV_C (V : Vt) (h : Nat) (f : Nat → Int32) : OldV h V (sC (zV V h) h f) := fun g hg => ⟨(zV_o V h g (by omega)).1, (va_up_ne _ _ (by omega)).trans (zV_o V h g (by omega)).2.1, (zV_o V h g (by omega)).2.2⟩
theorem mn_r {a b : Nat} (ha : a < 2147483648) (h : b ≤ a) : mnI (nI a) (nI b) = nI b := by rw [mn_nI ha (by omega), Nat.min_eq_right h]
theorem x_copyOf {N : Nat} (ad : Nat → Nat) {S : St} (V : Vt) {a len k : Nat} (hl : S.2.2.1 a = len) (hk : k ≤ len) (hlen : len ≤ 448) (ha : a < S.1) (had : ad S.1 = S.2.2.2.2) : ∃ f, f_J7_copyOf_59c91 N ad S V a (nI k) = some (S.1 + 1, nwA S 11 k, sC (zV V S.1) S.1 f) ∧ ∀ i, i < k → f i = V.2.1 a i := by
  unfold f_J7_copyOf_59c91
  rw [hl]
  have eN : Nat.toInt32 len = nI len := rfl
  rw [eN]
  have hb : (ad S.1 == S.2.2.2.2) = true := by rw [had]; exact beq_self_eq_true _
  by_cases h : k = len
  · subst h
    refine ⟨V.2.1 a, ?_, fun _ _ => rfl⟩
    rw [if_pos rfl, nI_cl (by omega), cgT (beq_self_eq_true _), cgT hb]
  · rw [if_neg (by rw [nI_E (by omega) (by omega)]; exact h), mn_r (by omega) hk, nI_cl (by omega)]
    have c1 : decide (¬ nI k < 0) = true := decide_eq_true (nI_pos (by omega))
    have c2 : Nat.ble k 100000 = true := Nat.ble_eq_true_of_le (by omega)
    have c3 : cpB 0 0 (nI k) len k = true := by
      unfold cpB
      apply decide_eq_true
      rw [nI_cl (by omega), show ((0 : Int32).toNatClampNeg) = 0 from rfl]
      exact ⟨by decide, by decide, nI_pos (by omega), by omega, by omega⟩
    refine ⟨va_cpy ((zV V S.1).2.1 a) ((zV V S.1).2.1 S.1) 0 0 k, ?_, fun i hi => ?_⟩
    · rw [cgT c1, cgT c2, cgT hb, cgT c3]; rfl
    · show va_cpy ((zV V S.1).2.1 a) ((zV V S.1).2.1 S.1) 0 0 k i = _
      unfold va_cpy
      rw [if_pos (by omega), (zV_o V S.1 a (by omega)).2.1, show 0 + (i - 0) = i by omega]
theorem adX_s {b0 h : Nat} (hh : 64 ≤ h) : adX b0 (h + 1) = adX b0 h + 1 := by
  unfold adX
  rw [if_neg (by omega), if_neg (by omega)]; omega
theorem x_newText {N b0 : Nat} {S : St} (hS : ShX b0 S) (Z : Vt) (K : Vt → Int32 → Option (Nat × St × Vt)) (v : Int32) {sz cnt : Nat} (h65 : Z.1 37 6 = Z.1 37 5) (h10 : Z.1 37 10 = nI sz) (h11 : Z.1 37 11 = nI cnt) (hsz : sz ≤ 448) (hcnt : cnt ≤ 12) :
    ∃ S' V', f_X5_readText_115 N (adX b0) S 37 36 K Z v = some (S.1 + 1, S', V') ∧ S'.1 = S.1 + 3 ∧ Old S S' ∧ S'.2.2.2.2 = adX b0 (S.1 + 3) ∧ tshB S' S.1 = true ∧ S'.2.2.1 (S.1 + 1) = sz ∧ (S'.2.2.1 (S.1 + 2) = 6 * cnt ∧ ∀ g, S.1 + 3 ≤ g → S'.2.2.1 g = S.2.2.1 g) ∧ OldV S.1 Z V' ∧ V'.1 S.1 2 = nI cnt ∧ (∀ i, i < sz → V'.2.1 (S.1 + 1) i = Z.2.1 40 i) ∧ ∀ i, i < 6 * cnt → V'.2.1 (S.1 + 2) i = Z.2.1 41 i := by
  obtain ⟨hsh, hz, h64⟩ := hS
  have ad0 : (adX b0 S.1 == S.2.2.2.2) = true := by rw [hz]; exact beq_self_eq_true _
  obtain ⟨q, hq⟩ : ∃ q, q = S.1 := ⟨_, rfl⟩
  obtain ⟨S1, hS1⟩ : ∃ S1, S1 = nwO S 7 := ⟨_, rfl⟩
  obtain ⟨Z1, hZ1⟩ : ∃ Z1, Z1 = zV Z q := ⟨_, rfl⟩
  have o1 : Old S S1 := by rw [hS1]; exact Old_O S 7
  have n1 : S1.1 = q + 1 := by rw [hS1, hq]; rfl
  have z1 : S1.2.2.2.2 = adX b0 (q + 1) := by rw [hS1, adX_s (by omega), hq]; show S.2.2.2.2 + 1 = _; rw [hz]
  have v1 : OldV q Z Z1 := by rw [hZ1]; exact OldV_z Z q
  have l40 : S1.2.2.1 40 = 448 := by rw [(o1.2 40 (by omega)).2.1]; exact len_of hsh 40 _ rfl
  have f10 : Z1.1 37 10 = nI sz := by rw [(v1 37 (by omega)).1]; exact h10
  obtain ⟨c1, ec1, hc1⟩ := x_copyOf (N := N) (adX b0) (S := S1) Z1 (a := 40) (len := 448) (k := sz) l40 hsz (by omega) (by omega) (by rw [n1, z1])
  obtain ⟨S2, hS2⟩ : ∃ S2, S2 = nwA S1 11 sz := ⟨_, rfl⟩
  obtain ⟨Z2, hZ2⟩ : ∃ Z2, Z2 = sC (zV Z1 S1.1) S1.1 c1 := ⟨_, rfl⟩
  have o2 : Old S1 S2 := by rw [hS2]; exact Old_A S1 11 sz
  have n2 : S2.1 = q + 2 := by rw [hS2]; show S1.1 + 1 = _; rw [n1]
  have z2 : S2.2.2.2.2 = adX b0 (q + 2) := by rw [hS2, adX_s (by omega)]; show S1.2.2.2.2 + 1 = _; rw [z1]
  have v2 : OldV (q + 1) Z1 Z2 := by rw [hZ2, ← n1]; exact OldV_C Z1 S1.1 c1
  have l41 : S2.2.2.1 41 = 72 := by rw [(o2.2 41 (by omega)).2.1, (o1.2 41 (by omega)).2.1]; exact len_of hsh 41 _ rfl
  have f11 : Z2.1 37 11 = nI cnt := by rw [(v2 37 (by omega)).1, (v1 37 (by omega)).1]; exact h11
  obtain ⟨c2, ec2, hc2⟩ := x_copyOf (N := N) (adX b0) (S := S2) Z2 (a := 41) (len := 72) (k := 6 * cnt) l41 (by omega) (by omega) (by omega) (by rw [n2, z2])
  obtain ⟨S3, hS3⟩ : ∃ S3, S3 = nwA S2 11 (6 * cnt) := ⟨_, rfl⟩
  obtain ⟨Z3, hZ3⟩ : ∃ Z3, Z3 = sC (zV Z2 S2.1) S2.1 c2 := ⟨_, rfl⟩
  have o3 : Old S2 S3 := by rw [hS3]; exact Old_A S2 11 (6 * cnt)
  have n3 : S3.1 = q + 3 := by rw [hS3]; show S2.1 + 1 = _; rw [n2]
  have z3 : S3.2.2.2.2 = adX b0 (q + 3) := by rw [hS3, adX_s (by omega)]; show S2.2.2.2.2 + 1 = _; rw [z2]
  have v3 : OldV (q + 2) Z2 Z3 := by rw [hZ3, ← n2]; exact OldV_C Z2 S2.1 c2
  have f11' : Z3.1 37 11 = nI cnt := by rw [(v3 37 (by omega)).1]; exact f11
  obtain ⟨S5, hS5⟩ : ∃ S5, S5 = stP (stP S3 q 0 (q + 2)) q 1 (q + 3) := ⟨_, rfl⟩
  have o13 : Old S S3 := Old_t (Old_t o1 o2) o3
  have o5 : Old S S5 := by rw [hS5]; exact Old_P q 1 _ (by omega) (Old_P q 0 _ (by omega) o13)
  have kq : S3.2.1 q = 7 := by rw [(o3.2 q (by omega)).1, (o2.2 q (by omega)).1, hS1, nwO_k, if_pos hq]
  have k1 : S3.2.1 (q + 1) = 11 := by rw [(o3.2 (q + 1) (by omega)).1, hS2, nwA_k, if_pos (by omega)]
  have k2 : S3.2.1 (q + 2) = 11 := by rw [hS3, nwA_k, if_pos (by omega)]
  have l1 : S3.2.2.1 (q + 1) = sz := by rw [(o3.2 (q + 1) (by omega)).2.1, hS2, nwA_l, if_pos (by omega)]
  have l2 : S3.2.2.1 (q + 2) = 6 * cnt := by rw [hS3, nwA_l, if_pos (by omega)]
  have sh37 := sb_8_37 hsh
  have t5 : ∀ {S' : St}, Old S S' → shpB S' 37 t5 = true := fun a => shpB_of (Old_shp a (by have := sh37; rw [Nat.zero_add] at this; exact this))
  refine ⟨S5, sF Z3 q 2 (nI cnt), ?_, by rw [hS5]; show S3.1 = _; rw [n3, hq], o5, by rw [hS5]; show S3.2.2.2.2 = _; rw [z3, hq], ?_, by rw [hS5, ← hq]; exact l1, ⟨by rw [hS5, ← hq]; exact l2, fun g hg => ?_⟩, ?_, ?_, ?_, ?_⟩
  · unfold f_X5_readText_115
    rw [if_pos h65, cgT ad0, pl_bd, pl_bd, pl_bd, ← hS1, ← hq, ← hZ1, cgT (t5 o1), f10, nI_cl (by omega), cgT (Nat.ble_eq_true_of_le hsz)]
    show oa (f_J7_copyOf_59c91 N (adX b0) S1 Z1 40 (nI sz)) _ = _
    rw [ec1, pl_oa, ← hS2, ← hZ2, cgT (t5 (Old_t o1 o2)), pl_nls, cgT rfl, f11, lj 6, pk_mul, nI_cl (by omega), cgT (Nat.ble_eq_true_of_le (by omega))]
    show oa (f_J7_copyOf_59c91 N (adX b0) S2 Z2 41 (nI (6 * cnt))) _ = _
    rw [ec2, pl_oa, ← hS3, ← hZ3, cgT (t5 o13), pl_nls, cgT rfl, f11']
    unfold f_X7_init
    rw [cgT (ooT (by omega) kq), pl_bd, n1, n2, cgT (ooT (show q < (stP S3 q 0 (q + 1 + 1)).1 by rw [stP_n]; omega) kq), pl_bd, cgT (ooT (show q < (stP (stP S3 q 0 (q + 1 + 1)) q 1 (q + 2 + 1)).1 by rw [stP_n, stP_n]; omega) kq), pl_bd, pl_oav]
    have e5 : stP (stP S3 q 0 (q + 1 + 1)) q 1 (q + 2 + 1) = S5 := hS5.symm
    rw [e5, cgT (t5 o5)]
  · unfold tshB
    simp only [Bool.and_eq_true, beq_iff_eq]
    rw [hS5, ← hq]
    refine ⟨⟨Nat.ble_eq_true_of_le (by rw [stP_n, stP_n, n3]; omega), kq⟩, ⟨?_, ?_⟩, k1, k2⟩
    · rw [stP_p, if_neg (by omega), stP_p, if_pos ⟨rfl, rfl⟩]
    · rw [stP_p, if_pos ⟨rfl, rfl⟩]
  · rw [hS5]
    show S3.2.2.1 g = _
    rw [hS3, nwA_l, if_neg (by omega), hS2, nwA_l, if_neg (by omega), hS1, nwO_l]
  · rw [← hq]
    intro g hg
    have a := OldV_t v1 (OldV_t v2 v3 (by omega)) (by omega) g hg
    exact ⟨(sF_n _ _ _ _ _ (by omega)).trans a.1, a.2.1, a.2.2⟩
  · rw [← hq, sF_e, upd_e]
  · intro i hi
    rw [← hq, sF_2, (v3 (q + 1) (by omega)).2.1, hZ2]
    show va_up (zV Z1 S1.1).2.1 S1.1 c1 (q + 1) i = _
    rw [n1]
    show (if q + 1 = q + 1 then c1 else _) i = _
    rw [if_pos rfl, hc1 i hi, (v1 40 (by omega)).2.1]
  · intro i hi
    rw [← hq, sF_2, hZ3]
    show va_up (zV Z2 S2.1).2.1 S2.1 c2 (q + 2) i = _
    rw [n2]
    show (if q + 2 = q + 2 then c2 else _) i = _
    rw [if_pos rfl, hc2 i hi, (v2 41 (by omega)).2.1, (v1 41 (by omega)).2.1]
end
