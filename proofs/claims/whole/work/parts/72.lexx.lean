section
/-! tokens: where they begin and end; the class's way -/
def skp (B : Nat → Nat) (L : Nat) : Nat → Nat → Nat
  | 0, k => k
  | f + 1, k => if k < L ∧ B k = 32 then skp B L f (k + 1) else k
def ext (B : Nat → Nat) (L kd : Nat) : Nat → Nat → Nat
  | 0, k => k
  | f + 1, k => if k < L ∧ kdB (B k) = kd ∧ kd ≠ 3 then ext B L kd f (k + 1) else k
theorem skp_p (B : Nat → Nat) (L : Nat) : ∀ f k, k ≤ L → L < f + k → k ≤ skp B L f k ∧ skp B L f k ≤ L ∧ (skp B L f k < L → B (skp B L f k) ≠ 32) := by
  intro f
  induction f with
  | zero => intro k h1 h2; omega
  | succ f ih =>
    intro k h1 h2
    unfold skp
    by_cases h : k < L ∧ B k = 32
    · rw [if_pos h]
      obtain ⟨a, b, c⟩ := ih (k + 1) (by omega) (by omega)
      exact ⟨by omega, b, c⟩
    · rw [if_neg h]
      exact ⟨Nat.le_refl k, h1, fun hk q => h ⟨hk, q⟩⟩
theorem ext_p (B : Nat → Nat) (L kd : Nat) : ∀ f k, k ≤ L → L < f + k → k ≤ ext B L kd f k ∧ ext B L kd f k ≤ L ∧ (∀ i, k ≤ i → i < ext B L kd f k → kdB (B i) = kd) ∧ (kd = 3 → ext B L kd f k = k) := by
  intro f
  induction f with
  | zero => intro k h1 h2; omega
  | succ f ih =>
    intro k h1 h2
    unfold ext
    by_cases h : k < L ∧ kdB (B k) = kd ∧ kd ≠ 3
    · rw [if_pos h]
      obtain ⟨a, b, c, d⟩ := ih (k + 1) (by omega) (by omega)
      refine ⟨by omega, b, fun i hi1 hi2 => ?_, fun q => absurd q h.2.2⟩
      by_cases hik : i = k
      · rw [hik]; exact h.2.1
      · exact c i (by omega) hi2
    · rw [if_neg h]
      exact ⟨Nat.le_refl k, h1, fun i hi1 hi2 => by omega, fun _ => rfl⟩
theorem kd_3 (b : Nat) : kdB b ≤ 3 := by
  unfold kdB
  by_cases h1 : b = 32
  · rw [if_pos h1]; omega
  · rw [if_neg h1]
    by_cases h2 : 97 ≤ b ∧ b ≤ 122
    · rw [if_pos h2]; omega
    · rw [if_neg h2]
      by_cases h3 : 48 ≤ b ∧ b ≤ 57
      · rw [if_pos h3]; omega
      · rw [if_neg h3]; omega
theorem kd_0 (b : Nat) : kdB b = 0 ↔ b = 32 := by
  unfold kdB
  by_cases h1 : b = 32
  · rw [if_pos h1]; exact ⟨fun _ => h1, fun _ => rfl⟩
  · rw [if_neg h1]
    refine ⟨fun q => ?_, fun q => absurd q h1⟩
    by_cases h2 : 97 ≤ b ∧ b ≤ 122
    · rw [if_pos h2] at q; omega
    · rw [if_neg h2] at q
      by_cases h3 : 48 ≤ b ∧ b ≤ 57
      · rw [if_pos h3] at q; omega
      · rw [if_neg h3] at q; omega
theorem kd_2 (b : Nat) : kdB b = 2 ↔ 48 ≤ b ∧ b ≤ 57 := by
  unfold kdB
  by_cases h1 : b = 32
  · rw [if_pos h1]; omega
  · rw [if_neg h1]
    by_cases h2 : 97 ≤ b ∧ b ≤ 122
    · rw [if_pos h2]; omega
    · rw [if_neg h2]
      by_cases h3 : 48 ≤ b ∧ b ≤ 57
      · rw [if_pos h3]; exact ⟨fun _ => h3, fun _ => rfl⟩
      · rw [if_neg h3]; exact ⟨fun q => by omega, fun q => absurd q h3⟩
theorem kd_1 (b : Nat) : kdB b = 1 ↔ 97 ≤ b ∧ b ≤ 122 := by
  unfold kdB
  by_cases h1 : b = 32
  · rw [if_pos h1]; omega
  · rw [if_neg h1]
    by_cases h2 : 97 ≤ b ∧ b ≤ 122
    · rw [if_pos h2]; exact ⟨fun _ => h2, fun _ => rfl⟩
    · rw [if_neg h2]
      by_cases h3 : 48 ≤ b ∧ b ≤ 57
      · rw [if_pos h3]; omega
      · rw [if_neg h3]; omega
theorem rS_f6 (V : Vt) (s s' e pt sz : Nat) (fl : Int32) (C : Nat → Int32) : sF (rS V s e pt sz fl C) 37 6 (nI s') = rS V s' e pt sz fl C := by
  unfold sF rS
  refine Prod.ext ?_ rfl
  funext h j
  simp only [up2]
  by_cases c : h = 37 ∧ j = 6
  · simp only [if_pos c]
  · simp only [if_neg c]
theorem rS_f7 (V : Vt) (s e e' pt sz : Nat) (fl : Int32) (C : Nat → Int32) : sF (rS V s e pt sz fl C) 37 7 (nI e') = rS V s e' pt sz fl C := by
  unfold sF rS
  refine Prod.ext ?_ rfl
  funext h j
  simp only [up2]
  by_cases c : h = 37 ∧ j = 7
  · simp only [if_pos c]; rw [if_neg (by omega)]
  · simp only [if_neg c]
/-- what the class's reader holds of the tape -/
def BY (V : Vt) (B : Nat → Nat) (L : Nat) : Prop := L ≤ 400 ∧ V.1 37 5 = nI L ∧ ∀ i, i < L → B i < 256 ∧ V.2.1 38 i = nI (B i) ∧ V.2.1 39 i = nI (kdB (B i))
def EX (B : Nat → Nat) (L s : Nat) : Nat := if s < L then ext B L (kdB (B s)) 401 (s + 1) else L
theorem EX_p (B : Nat → Nat) {L s : Nat} (hL : L ≤ 400) (h : s < L) : s < EX B L s ∧ EX B L s ≤ L ∧ (∀ i, s ≤ i → i < EX B L s → kdB (B i) = kdB (B s)) ∧ (kdB (B s) = 3 → EX B L s = s + 1) := by
  unfold EX
  rw [if_pos h]
  obtain ⟨a, b, c, d⟩ := ext_p B L (kdB (B s)) 401 (s + 1) (by omega) (by omega)
  refine ⟨by omega, b, fun i h1 h2 => ?_, d⟩
  by_cases hi : i = s
  · rw [hi]
  · exact c i (by omega) h2
theorem x_move {N : Nat} (hN : 20000 ≤ N) (S : St) {V : Vt} {B : Nat → Nat} {L : Nat} (hB : BY V B L) (s k pt sz : Nat) (fl : Int32) (C : Nat → Int32) (hk : k ≤ L) : f_X5_move N S (rS V s k pt sz fl C) 37 = some (rS V (skp B L 401 k) (EX B L (skp B L 401 k)) pt sz fl C) := by
  obtain ⟨hL, h5, hb⟩ := hB
  have m44 : ∀ f st j m, L < f + j → L < m + j → j ≤ L → st < L → f_X5_move_44 N S 37 m (rS V st k pt sz fl C) (nI j) = some (rS V st (ext B L (kdB (B st)) f j) pt sz fl C) := by
    intro f
    induction f with
    | zero => intro st j m h1 h2 h3 h4; omega
    | succ f ih =>
      intro st j m h1 h2 h3 h4
      obtain ⟨m, rfl⟩ : ∃ m', m = m' + 1 := ⟨m - 1, by omega⟩
      rw [f_X5_move_44, rS_5, h5, rS_6]
      by_cases c1 : j < L
      · rw [if_neg (by rw [nI_L (by omega) (by omega)]; omega), pl_ck (by omega) (by omega), pl_ck (by omega) (by omega), pl_ck (by omega) (by omega), nI_cl (by omega), nI_cl (by omega)]
        show (if V.2.1 39 j = V.2.1 39 st then (if V.2.1 39 j = 3 then _ else _) else _) = _
        rw [(hb j c1).2.2, (hb st h4).2.2]
        have k3 := kd_3 (B j)
        have k3' := kd_3 (B st)
        unfold ext
        by_cases c2 : kdB (B j) = kdB (B st)
        · rw [if_pos (by rw [c2])]
          by_cases c3 : kdB (B j) = 3
          · rw [if_pos (by rw [c3]; rfl), if_neg (by omega), rS_f7]; rfl
          · rw [if_neg (by rw [lj 3, nI_E (by omega) (by omega)]; exact c3), if_pos ⟨c1, c2, by omega⟩, nI_1, pl_bd]
            exact ih st (j + 1) m (by omega) (by omega) (by omega) h4
        · rw [if_neg (by rw [nI_E (by omega) (by omega)]; exact c2), if_neg (by omega), rS_f7]; rfl
      · rw [if_pos (by rw [nI_L (by omega) (by omega)]; omega), rS_f7]
        unfold ext
        rw [if_neg (by omega)]; rfl
  have m28 : ∀ p, p ≤ L → f_X5_move_28 N S 37 (rS V s k pt sz fl C) (nI p) = some (rS V p (EX B L p) pt sz fl C) := by
    intro p hp
    unfold f_X5_move_28 EX
    rw [rS_f6, pl_bd, rS_5, h5]
    by_cases c : p < L
    · rw [if_neg (by rw [nI_L (by omega) (by omega)]; omega), nI_1, pl_bd, if_pos c]
      exact m44 401 p (p + 1) N (by omega) (by omega) (by omega) c
    · rw [if_pos (by rw [nI_L (by omega) (by omega)]; omega), if_neg c]
      obtain ⟨m, hm⟩ : ∃ m, N = m + 1 := ⟨N - 1, by omega⟩
      have : ∀ m, f_X5_move_44 N S 37 (m + 1) (rS V p k pt sz fl C) (nI p) = some (rS V p L pt sz fl C) := by
        intro m
        rw [f_X5_move_44, rS_5, h5, if_pos (by rw [nI_L (by omega) (by omega)]; omega), rS_f7, show p = L by omega]; rfl
      have t := this m
      rw [← hm] at t
      exact t
  have m5 : ∀ f j m, L < f + j → L < m + j → j ≤ L → f_X5_move_5 N S 37 m (rS V s k pt sz fl C) (nI j) = f_X5_move_28 N S 37 (rS V s k pt sz fl C) (nI (skp B L f j)) := by
    intro f
    induction f with
    | zero => intro j m h1 h2 h3; omega
    | succ f ih =>
      intro j m h1 h2 h3
      obtain ⟨m, rfl⟩ : ∃ m', m = m' + 1 := ⟨m - 1, by omega⟩
      rw [f_X5_move_5, rS_5, h5]
      unfold skp
      by_cases c1 : j < L
      · rw [if_neg (by rw [nI_L (by omega) (by omega)]; omega), pl_ck (by omega) (by omega), nI_cl (by omega)]
        show (if V.2.1 39 j = 0 then _ else _) = _
        rw [(hb j c1).2.2]
        have k3 := kd_3 (B j)
        by_cases c2 : B j = 32
        · rw [if_pos (by rw [(kd_0 _).mpr c2]; rfl), if_pos ⟨c1, c2⟩, nI_1, pl_bd]
          exact ih (j + 1) m (by omega) (by omega) (by omega)
        · rw [if_neg (by rw [lj 0, nI_E (by omega) (by omega)]; exact fun q => c2 ((kd_0 _).mp q)), if_neg (fun q => c2 q.2)]
      · rw [if_pos (by rw [nI_L (by omega) (by omega)]; omega), if_neg (fun q => c1 q.1)]
  unfold f_X5_move
  rw [rS_7, pl_bd, m5 401 k N (by omega) (by omega) hk, m28 _ (skp_p B L 401 k hk (by omega)).2.1]
/-- numbers -/
def sat1 (B : Nat → Nat) (s : Nat) : Nat → Nat
  | 0 => 0
  | j + 1 => min (10 * sat1 B s j + (B (s + j) - 48)) 1001
def sat2 (B : Nat → Nat) (s : Nat) : Nat → Nat
  | 0 => 0
  | j + 1 => if sat2 B s j ≤ 1000000 then 10 * sat2 B s j + (B (s + j) - 48) else sat2 B s j
theorem sat_12 (B : Nat → Nat) (s : Nat) : ∀ j, (∀ i, i < j → 48 ≤ B (s + i) ∧ B (s + i) ≤ 57) → sat1 B s j = min (sat2 B s j) 1001 ∧ sat2 B s j ≤ 10000009 := by
  intro j
  induction j with
  | zero => intro _; exact ⟨rfl, by unfold sat2; omega⟩
  | succ j ih =>
    intro h
    obtain ⟨a, b⟩ := ih (fun i hi => h i (by omega))
    have hj := h j (by omega)
    unfold sat1 sat2
    rw [a]
    by_cases c : sat2 B s j ≤ 1000000
    · rw [if_pos c]; omega
    · rw [if_neg c]; omega
def tvl (B : Nat → Nat) (L s e : Nat) : Nat := if s < L ∧ kdB (B s) = 2 then sat2 B s (e - s) else 0
theorem fw_29 (tk : List Nat) : fw tk ALLW 1 ≤ 29 := by
  rcases fw_p tk ALLW 1 with h | ⟨-, h, -⟩
  · omega
  · have : ALLW.length = 29 := rfl
    omega
theorem tkn_cons (B : Nat → Nat) (s sg : Nat) (h : 0 < sg) : tkn B s sg = B s :: tkn B (s + 1) (sg - 1) := by
  obtain ⟨k, rfl⟩ : ∃ k, sg = k + 1 := ⟨sg - 1, by omega⟩
  unfold tkn
  rw [List.range_succ_eq_map, List.map_cons, List.map_map]
  congr 1
  rw [Nat.add_sub_cancel]
  apply List.map_congr_left
  intro j _
  show B (s + (j + 1)) = B (s + 1 + j)
  congr 1; omega
/-- the code of the token at s -/
theorem tc_at (B : Nat → Nat) {L s : Nat} (hL : L ≤ 400) (hB : ∀ i, i < L → B i < 256) (h : s ≤ L) : vtk (tkn B s (EX B L s - s)) ∧ tcode (tkn B s (EX B L s - s)) = (if s < L then (if kdB (B s) = 1 then fw (tkn B s (EX B L s - s)) ALLW 1 else if kdB (B s) = 2 then 50 else 100 + B s) else 0) := by
  by_cases c : s < L
  · obtain ⟨a, b, d, e⟩ := EX_p B hL c
    have tc := tkn_cons B s (EX B L s - s) (by omega)
    rw [if_pos c]
    refine ⟨Or.inr ⟨B s, _, tc, hB s c, fun k3 => ?_⟩, ?_⟩
    · rw [e k3, show s + 1 - s - 1 = 0 by omega]; rfl
    · rw [tc]; rfl
  · have : EX B L s - s = 0 := by unfold EX; rw [if_neg c]; omega
    rw [this, if_neg c]
    exact ⟨Or.inl rfl, rfl⟩
theorem x_number {N : Nat} (hN : 20000 ≤ N) (S : St) {V : Vt} {B : Nat → Nat} {L s : Nat} (hB : BY V B L) (hs : s ≤ L) (pt sz : Nat) (fl : Int32) (C : Nat → Int32) (m : Nat) (hm : m ≤ 1000) : f_X5_numberTo N S (rS V s (EX B L s) pt sz fl C) 37 (nI m) = some (if tcode (tkn B s (EX B L s - s)) = 50 ∧ tvl B L s (EX B L s) ≤ m then nI (tvl B L s (EX B L s)) else -1) := by
  obtain ⟨hL, h5, hb⟩ := hB
  have tc := (tc_at B hL (fun i hi => (hb i hi).1) hs).2
  unfold f_X5_numberTo
  rw [rS_5, h5, rS_6]
  by_cases c : s < L
  · rw [if_pos c] at tc
    rw [if_neg (by rw [nI_L (by omega) (by omega)]; omega), pl_ck (by omega) (by omega), nI_cl (by omega)]
    show (if V.2.1 39 s = 2 then _ else _) = _
    have k3 := kd_3 (B s)
    obtain ⟨a, b, d, e⟩ := EX_p B hL c
    rw [(hb s c).2.2]
    by_cases k2 : kdB (B s) = 2
    · have dg : ∀ i, i < EX B L s - s → 48 ≤ B (s + i) ∧ B (s + i) ≤ 57 := fun i hi => (kd_2 _).mp ((d (s + i) (by omega) (by omega)).trans k2)
      obtain ⟨s1, s2⟩ := sat_12 B s (EX B L s - s) dg
      have tv : tvl B L s (EX B L s) = sat2 B s (EX B L s - s) := if_pos ⟨c, k2⟩
      rw [if_neg (by omega), if_pos k2] at tc
      rw [if_pos (by rw [k2]; rfl), pl_bd, tc, tv]
      have loop : ∀ k j q, j + k = EX B L s - s → k < q → f_X5_numberTo_33 N S (rS V s (EX B L s) pt sz fl C) 37 q (nI m) (nI (sat1 B s j)) (nI (s + j)) = some (if nI m < nI (sat1 B s (EX B L s - s)) then -1 else nI (sat1 B s (EX B L s - s))) := by
        intro k
        induction k with
        | zero =>
          intro j q hj hq
          obtain ⟨q, rfl⟩ : ∃ q', q = q' + 1 := ⟨q - 1, by omega⟩
          rw [f_X5_numberTo_33, rS_7, if_pos (by rw [nI_L (by omega) (by omega)]; omega), show j = EX B L s - s by omega]
          by_cases z : nI m < nI (sat1 B s (EX B L s - s))
          · rw [if_pos z, if_pos z]
          · rw [if_neg z, if_neg z]
        | succ k ih =>
          intro j q hj hq
          obtain ⟨q, rfl⟩ : ∃ q', q = q' + 1 := ⟨q - 1, by omega⟩
          have dj := dg j (by omega)
          have sj := (sat_12 B s j (fun i hi => dg i (by omega))).1
          rw [f_X5_numberTo_33, rS_7, if_neg (by rw [nI_L (by omega) (by omega)]; omega), pl_ck (by omega) (by omega), nI_cl (by omega)]
          show bd (mnI (((10 : Int32) * nI (sat1 B s j) + V.2.1 38 (s + j)) - 48) 1001) _ = _
          rw [(hb (s + j) (by omega)).2.1, lj 10, lj 48, lj 1001, pk_mul, nI_add, pk_sub (by omega), mn_nI (by omega) (by omega), pl_bd, nI_1, pl_bd]
          have e : min 1001 (10 * sat1 B s j + B (s + j) - 48) = sat1 B s (j + 1) := by
            show _ = min (10 * sat1 B s j + (B (s + j) - 48)) 1001
            omega
          first
            | rw [e]; exact ih (j + 1) q (by omega) (by omega)
            | (rw [Nat.min_comm, e]; exact ih (j + 1) q (by omega) (by omega))
      have := loop (EX B L s - s) 0 N (by omega) (by omega)
      have t : f_X5_numberTo_33 N S (rS V s (EX B L s) pt sz fl C) 37 N (nI m) 0 (nI s) = _ := this
      rw [t]
      congr 1
      by_cases z : sat2 B s (EX B L s - s) ≤ m
      · rw [if_neg (by rw [nI_T (by omega) (by omega)]; omega), if_pos ⟨rfl, z⟩, s1]
        congr 1; omega
      · rw [if_pos (by rw [nI_T (by omega) (by omega)]; omega), if_neg (fun q => z q.2)]
    · rw [if_neg (by rw [lj 2, nI_E (by omega) (by omega)]; exact k2), if_neg]
      rw [tc]
      intro q
      have f29 := fw_29 (tkn B s (EX B L s - s))
      by_cases k1 : kdB (B s) = 1
      · rw [if_pos k1] at q; omega
      · rw [if_neg k1, if_neg k2] at q; omega
  · rw [if_neg c] at tc
    rw [if_pos (by rw [nI_L (by omega) (by omega)]; omega), tc, if_neg (by omega)]
end
