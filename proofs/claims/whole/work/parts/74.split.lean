section
/-! the reference splits the tape -/
def tS (M : Vt) (nt : Nat) (Cd Vl Pl : Nat → Int32) : Vt := (fun h j => if h = 0 ∧ j = 18 then nI nt else M.1 h j, fun h => if h = 9 then Cd else if h = 10 then Vl else if h = 11 then Pl else M.2.1 h, M.2.2)
theorem tS_18 (M : Vt) (nt : Nat) (Cd Vl Pl : Nat → Int32) : (tS M nt Cd Vl Pl).1 0 18 = nI nt := rfl
theorem tS_f (M : Vt) (nt nt' : Nat) (Cd Vl Pl : Nat → Int32) : sF (tS M nt Cd Vl Pl) 0 18 (nI nt') = tS M nt' Cd Vl Pl := by
  unfold sF tS
  refine Prod.ext ?_ rfl
  funext h j
  simp only [up2]
  by_cases c : h = 0 ∧ j = 18
  · simp only [if_pos c]
  · simp only [if_neg c]
theorem tS_9 (M : Vt) (nt : Nat) (Cd Vl Pl : Nat → Int32) (k : Nat) (x : Int32) : sA (tS M nt Cd Vl Pl) 9 k x = tS M nt (upd Cd k x) Vl Pl := by
  unfold sA tS
  refine Prod.ext rfl (Prod.ext ?_ rfl)
  funext h j
  simp only [up2]
  by_cases c : h = 9
  · subst c
    by_cases d : j = k
    · simp [d, upd]
    · simp [d, upd]
  · simp only [c, false_and, if_false]
theorem tS_10 (M : Vt) (nt : Nat) (Cd Vl Pl : Nat → Int32) (k : Nat) (x : Int32) : sA (tS M nt Cd Vl Pl) 10 k x = tS M nt Cd (upd Vl k x) Pl := by
  unfold sA tS
  refine Prod.ext rfl (Prod.ext ?_ rfl)
  funext h j
  simp only [up2]
  by_cases c : h = 10
  · subst c
    by_cases d : j = k
    · simp [d, upd]
    · simp [d, upd]
  · simp only [c, false_and, if_false]
theorem tS_11 (M : Vt) (nt : Nat) (Cd Vl Pl : Nat → Int32) (k : Nat) (x : Int32) : sA (tS M nt Cd Vl Pl) 11 k x = tS M nt Cd Vl (upd Pl k x) := by
  unfold sA tS
  refine Prod.ext rfl (Prod.ext ?_ rfl)
  funext h j
  simp only [up2]
  by_cases c : h = 11
  · subst c
    by_cases d : j = k
    · simp [d, upd]
    · simp [d, upd]
  · simp only [c, false_and, if_false]
theorem tS_7 (M : Vt) (nt : Nat) (Cd Vl Pl : Nat → Int32) : (tS M nt Cd Vl Pl).2.1 7 = M.2.1 7 := rfl
theorem tS_6 (M : Vt) (nt : Nat) (Cd Vl Pl : Nat → Int32) : (tS M nt Cd Vl Pl).2.1 6 = M.2.1 6 := rfl
theorem tS_v (M : Vt) (nt : Nat) (Cd Vl Pl : Nat → Int32) : (tS M nt Cd Vl Pl).2.1 10 = Vl := rfl
section T
variable {N : Nat} {M : Vt} {B : Nat → Nat} {L : Nat}
/-- one token -/
theorem m_token (hN : 20000 ≤ N) (hW : Wq (M.2.1 6)) (hL : L ≤ 400) (hB : ∀ i, i < L → B i < 256 ∧ M.2.1 7 i = sb_b (B i)) {nt k : Nat} (hnt : nt ≤ 400) (hk : k < L) (h32 : B k ≠ 32) (Cd Vl Pl : Nat → Int32) (m : Nat) : f_X9_splits_7 N (m + 1) (tS M nt Cd Vl Pl) (nI L) (nI k) = f_X9_splits_7 N m (tS M (nt + 1) (upd Cd nt (nI (tcode (tkn B k (EX B L k - k))))) (upd Vl nt (nI (tvl B L k (EX B L k)))) (upd Pl nt (nI k))) (nI L) (nI (EX B L k)) := by
  obtain ⟨bk, ek⟩ := hB k hk
  obtain ⟨x1, x2, x3, x4⟩ := EX_p B hL hk
  have tc := (tc_at B hL (fun i hi => (hB i hi).1) (Nat.le_of_lt hk)).2
  rw [if_pos hk] at tc
  have ex0 : EX B L k = ext B L (kdB (B k)) 401 (k + 1) := if_pos hk
  have sm := sb_small N bk
  have dg := sb_digit N bk
  have k3 := kd_3 (B k)
  obtain ⟨K7, hK7⟩ : ∃ K7, K7 = f_X9_splits_7 N m := ⟨_, rfl⟩
  -- the end of it all
  have e100 : f_X9_splits_100 N K7 (tS M nt Cd Vl Pl) (nI L) (nI k) (sb_b (B k)) (nI (EX B L k)) = K7 (tS M (nt + 1) (upd Cd nt (nI (tcode (tkn B k (EX B L k - k))))) (upd Vl nt (nI (tvl B L k (EX B L k)))) (upd Pl nt (nI k))) (nI L) (nI (EX B L k)) := by
    have e247 : ∀ Z, f_X9_splits_247 N K7 (tS M nt (upd Cd nt (nI (tcode (tkn B k (EX B L k - k))))) Z (upd Pl nt (nI k))) (nI L) (nI (EX B L k)) = K7 (tS M (nt + 1) (upd Cd nt (nI (tcode (tkn B k (EX B L k - k))))) Z (upd Pl nt (nI k))) (nI L) (nI (EX B L k)) := by
      intro Z
      unfold f_X9_splits_247
      rw [tS_18, nI_1, tS_f, pl_bd]
    have loop : kdB (B k) = 2 → ∀ d j q, j + d = EX B L k - k → d < q → f_X9_splits_169 N K7 q (tS M nt (upd Cd nt (nI (tcode (tkn B k (EX B L k - k))))) (upd Vl nt (nI (sat2 B k j))) (upd Pl nt (nI k))) (nI L) (sb_b (B k)) (nI (EX B L k)) (nI (k + j)) = K7 (tS M (nt + 1) (upd Cd nt (nI (tcode (tkn B k (EX B L k - k))))) (upd Vl nt (nI (sat2 B k (EX B L k - k)))) (upd Pl nt (nI k))) (nI L) (nI (EX B L k)) := by
      intro k2 d
      have dgs : ∀ i, i < EX B L k - k → 48 ≤ B (k + i) ∧ B (k + i) ≤ 57 := fun i hi => (kd_2 _).mp ((x3 (k + i) (by omega) (by omega)).trans k2)
      induction d with
      | zero =>
        intro j q hj hq
        obtain ⟨q, rfl⟩ : ∃ q', q = q' + 1 := ⟨q - 1, by omega⟩
        rw [f_X9_splits_169, if_pos (by rw [nI_L (by omega) (by omega)]; omega), e247, show j = EX B L k - k by omega]
      | succ d ih =>
        intro j q hj hq
        obtain ⟨q, rfl⟩ : ∃ q', q = q' + 1 := ⟨q - 1, by omega⟩
        have hd := dgs j (by omega)
        have s2 := (sat_12 B k j (fun i hi => dgs i (by omega))).2
        have tb : M.2.1 7 (k + j) = nI (B (k + j)) := by rw [(hB (k + j) (by omega)).2, sb_sm (by omega)]
        rw [f_X9_splits_169, if_neg (by rw [nI_L (by omega) (by omega)]; omega), dg, if_pos k2, pl_ob1, if_neg (by decide), tS_18, pl_ck (by omega) (by omega), pl_ck (by omega) (by omega), pl_ck (by omega) (by omega), nI_cl (by omega), nI_cl (by omega), tS_v, upd_e, tS_7, tb]
        have st : ∀ x, f_X9_splits_240 N (f_X9_splits_169 N K7 q) (tS M nt (upd Cd nt (nI (tcode (tkn B k (EX B L k - k))))) (upd Vl nt (nI (sat2 B k j))) (upd Pl nt (nI k))) (nI L) (sb_b (B k)) (nI (EX B L k)) (nI (k + j)) (nI x) (nI nt) = f_X9_splits_169 N K7 q (tS M nt (upd Cd nt (nI (tcode (tkn B k (EX B L k - k))))) (upd Vl nt (nI x)) (upd Pl nt (nI k))) (nI L) (sb_b (B k)) (nI (EX B L k)) (nI (k + (j + 1))) := by
          intro x
          unfold f_X9_splits_240
          rw [pl_ck (by omega) (by omega), nI_cl (by omega), tS_10, fa_upd_twice, pl_bd, nI_1, pl_bd]; rfl
        by_cases c : sat2 B k j ≤ 1000000
        · have sx : sat2 B k (j + 1) = 10 * sat2 B k j + B (k + j) - 48 := by
            show (if sat2 B k j ≤ 1000000 then 10 * sat2 B k j + (B (k + j) - 48) else sat2 B k j) = _
            rw [if_pos c]; omega
          rw [if_pos (by rw [lj 1000000, nI_L (by omega) (by omega)]; exact c), lj 10, lj 48, pk_mul, nI_add, pk_sub (by omega), ← sx, st]
          exact ih (j + 1) q (by omega) (by omega)
        · have sx : sat2 B k (j + 1) = sat2 B k j := by
            show (if sat2 B k j ≤ 1000000 then 10 * sat2 B k j + (B (k + j) - 48) else sat2 B k j) = _
            rw [if_neg c]
          rw [if_neg (by rw [lj 1000000, nI_L (by omega) (by omega)]; exact c), pl_ck (by omega) (by omega), st, ← sx]
          exact ih (j + 1) q (by omega) (by omega)
    have e165 : f_X9_splits_165 N K7 (tS M nt Cd (upd Vl nt (nI 0)) (upd Pl nt (nI k))) (nI L) (nI k) (sb_b (B k)) (nI (EX B L k)) (nI (tcode (tkn B k (EX B L k - k)))) (nI nt) = K7 (tS M (nt + 1) (upd Cd nt (nI (tcode (tkn B k (EX B L k - k))))) (upd Vl nt (nI (tvl B L k (EX B L k)))) (upd Pl nt (nI k))) (nI L) (nI (EX B L k)) := by
      unfold f_X9_splits_165
      rw [pl_ck (by omega) (by omega), nI_cl (by omega), tS_9, pl_bd]
      by_cases k2 : kdB (B k) = 2
      · rw [show tvl B L k (EX B L k) = sat2 B k (EX B L k - k) from if_pos ⟨hk, k2⟩]
        exact loop k2 (EX B L k - k) 0 N (by omega) (by omega)
      · rw [show tvl B L k (EX B L k) = 0 from if_neg (fun q => k2 q.2)]
        obtain ⟨n', hn'⟩ : ∃ n', N = n' + 1 := ⟨N - 1, by omega⟩
        have gen : ∀ q, f_X9_splits_169 N K7 (q + 1) (tS M nt (upd Cd nt (nI (tcode (tkn B k (EX B L k - k))))) (upd Vl nt (nI 0)) (upd Pl nt (nI k))) (nI L) (sb_b (B k)) (nI (EX B L k)) (nI k) = K7 (tS M (nt + 1) (upd Cd nt (nI (tcode (tkn B k (EX B L k - k))))) (upd Vl nt (nI 0)) (upd Pl nt (nI k))) (nI L) (nI (EX B L k)) := by
          intro q
          rw [f_X9_splits_169, if_neg (by rw [nI_L (by omega) (by omega)]; omega), dg, if_neg k2, pl_ob1, if_pos (show nI 0 = 0 from rfl), e247]
        have := gen n'
        rw [← hn'] at this; exact this
    unfold f_X9_splits_100
    rw [tS_18, pl_ck (by omega) (by omega), nI_cl (by omega), tS_11, pl_bd, tS_18, pl_ck (by omega) (by omega), nI_cl (by omega), lj 0, tS_10, pl_bd, sm, pl_ob1]
    by_cases k1 : kdB (B k) = 1
    · have hwo := m_wordOf hN (tS M nt Cd (upd Vl nt (nI 0)) (upd Pl nt (nI k))) (by rw [tS_6]; exact hW) (B := B) (s := k) (e := EX B L k) (by omega) (by omega) (fun i h1 h2 => ⟨(hB i (by omega)).1, by rw [tS_7]; exact (hB i (by omega)).2⟩)
      rw [if_pos k1] at tc
      rw [if_pos k1, if_neg (by decide), hwo, pl_ob1, tS_18, ← tc]
      exact e165
    · rw [if_neg k1] at tc
      rw [if_neg k1, if_pos rfl, dg, pl_ob1]
      by_cases k2 : kdB (B k) = 2
      · rw [if_pos k2] at tc
        rw [if_pos k2, if_neg (by decide), tS_18, show (50 : Int32) = nI 50 from rfl, ← tc]
        exact e165
      · rw [if_neg k2] at tc
        have by1 := (sb_byte (B k) bk).1
        rw [if_neg k2, if_pos rfl, by1, lj 100, nI_add, tS_18, ← tc]
        exact e165
  have e68 : ∀ j, (kdB (B k) = 2 → j = k + 1) → (¬ kdB (B k) = 2 → j = EX B L k) → f_X9_splits_68 N K7 (tS M nt Cd Vl Pl) (nI L) (nI k) (sb_b (B k)) (nI j) = K7 (tS M (nt + 1) (upd Cd nt (nI (tcode (tkn B k (EX B L k - k))))) (upd Vl nt (nI (tvl B L k (EX B L k)))) (upd Pl nt (nI k))) (nI L) (nI (EX B L k)) := by
    intro j h1 h2
    unfold f_X9_splits_68
    rw [dg, pl_ob1]
    by_cases k2 : kdB (B k) = 2
    · rw [if_pos k2, if_neg (by decide), h1 k2]
      have loop : ∀ f j q, L < f + j → L < q + j → j ≤ L → f_X9_splits_75 N K7 q (tS M nt Cd Vl Pl) (nI L) (nI k) (sb_b (B k)) (nI j) = f_X9_splits_100 N K7 (tS M nt Cd Vl Pl) (nI L) (nI k) (sb_b (B k)) (nI (ext B L 2 f j)) := by
        intro f
        induction f with
        | zero => intro j q g1 g2 g3; omega
        | succ f ih =>
          intro j q g1 g2 g3
          obtain ⟨q, rfl⟩ : ∃ q', q = q' + 1 := ⟨q - 1, by omega⟩
          rw [f_X9_splits_75]
          unfold ext
          by_cases c1 : j < L
          · rw [if_neg (by rw [nI_L (by omega) (by omega)]; omega), pl_ck (by omega) (by omega), nI_cl (by omega), tS_7, (hB j c1).2, sb_digit N (hB j c1).1, pl_ob1]
            by_cases c2 : kdB (B j) = 2
            · rw [if_pos c2, if_neg (by decide), if_pos ⟨c1, c2, by omega⟩, nI_1, pl_bd]
              exact ih (j + 1) q (by omega) (by omega) (by omega)
            · rw [if_neg c2, if_pos (show nI 0 = 0 from rfl), if_neg (fun z => c2 z.2.1)]
          · rw [if_pos (by rw [nI_L (by omega) (by omega)]; omega), if_neg (fun z => c1 z.1)]
      have q2 : ext B L 2 401 (k + 1) = EX B L k := by rw [ex0, k2]
      rw [loop 401 (k + 1) N (by omega) (by omega) (by omega), q2]
      exact e100
    · rw [if_neg k2, if_pos (show nI 0 = 0 from rfl), h2 k2]
      exact e100
  rw [f_X9_splits_7, if_neg (by rw [nI_L (by omega) (by omega)]; omega), pl_ck (by omega) (by omega), nI_cl (by omega), tS_7, ek, pl_bd, if_neg (by rw [lj 32, sb_E bk (by omega)]; exact h32), nI_1, pl_bd, sm, pl_ob1, ← hK7]
  by_cases k1 : kdB (B k) = 1
  · rw [if_pos k1, if_neg (by decide)]
    have loop : ∀ f j q, L < f + j → L < q + j → j ≤ L → f_X9_splits_43 N K7 q (tS M nt Cd Vl Pl) (nI L) (nI k) (sb_b (B k)) (nI j) = f_X9_splits_68 N K7 (tS M nt Cd Vl Pl) (nI L) (nI k) (sb_b (B k)) (nI (ext B L 1 f j)) := by
      intro f
      induction f with
      | zero => intro j q g1 g2 g3; omega
      | succ f ih =>
        intro j q g1 g2 g3
        obtain ⟨q, rfl⟩ : ∃ q', q = q' + 1 := ⟨q - 1, by omega⟩
        rw [f_X9_splits_43]
        unfold ext
        by_cases c1 : j < L
        · rw [if_neg (by rw [nI_L (by omega) (by omega)]; omega), pl_ck (by omega) (by omega), nI_cl (by omega), tS_7, (hB j c1).2, sb_small N (hB j c1).1, pl_ob1]
          by_cases c2 : kdB (B j) = 1
          · rw [if_pos c2, if_neg (by decide), if_pos ⟨c1, c2, by omega⟩, nI_1, pl_bd]
            exact ih (j + 1) q (by omega) (by omega) (by omega)
          · rw [if_neg c2, if_pos (show nI 0 = 0 from rfl), if_neg (fun z => c2 z.2.1)]
        · rw [if_pos (by rw [nI_L (by omega) (by omega)]; omega), if_neg (fun z => c1 z.1)]
    have q1 : ext B L 1 401 (k + 1) = EX B L k := by rw [ex0, k1]
    rw [loop 401 (k + 1) N (by omega) (by omega) (by omega), q1]
    exact e68 _ (fun q => by omega) (fun _ => rfl)
  · rw [if_neg k1, if_pos (show nI 0 = 0 from rfl)]
    refine e68 (k + 1) (fun _ => rfl) (fun k2 => ?_)
    have kk : kdB (B k) = 3 := by
      have : ¬ kdB (B k) = 0 := fun q => h32 ((kd_0 _).mp q)
      omega
    exact (x4 kk).symm
def Eq' (B : Nat → Nat) (L : Nat) : Nat → Nat
  | 0 => 0
  | t + 1 => EX B L (skp B L 401 (Eq' B L t))
def Pq (B : Nat → Nat) (L t : Nat) : Nat := skp B L 401 (Eq' B L t)
theorem Eq_le (B : Nat → Nat) {L : Nat} (hL : L ≤ 400) : ∀ t, Eq' B L t ≤ L := by
  intro t
  induction t with
  | zero => exact Nat.zero_le _
  | succ t ih =>
    show EX B L (skp B L 401 (Eq' B L t)) ≤ L
    by_cases h : skp B L 401 (Eq' B L t) < L
    · exact (EX_p B hL h).2.1
    · unfold EX; rw [if_neg h]; exact Nat.le_refl L
theorem Pq_le (B : Nat → Nat) {L : Nat} (hL : L ≤ 400) (t : Nat) : Eq' B L t ≤ Pq B L t ∧ Pq B L t ≤ L ∧ (Pq B L t < L → B (Pq B L t) ≠ 32) := skp_p B L 401 _ (Eq_le B hL t) (by have := Eq_le B hL t; omega)
theorem m_splits (hN : 20000 ≤ N) (hW : Wq (M.2.1 6)) (hL : L ≤ 400) (hB : ∀ i, i < L → B i < 256 ∧ M.2.1 7 i = sb_b (B i)) : ∃ (n : Nat) (Cd Vl Pl : Nat → Int32), n ≤ L ∧ f_X9_splits N M (nI L) = some (tS M n Cd Vl Pl) ∧ Pq B L n = L ∧ (∀ t, t < n → Pq B L t < L) ∧ (∀ t, t < n → Cd t = nI (tcode (tkn B (Pq B L t) (EX B L (Pq B L t) - Pq B L t))) ∧ Vl t = nI (tvl B L (Pq B L t) (EX B L (Pq B L t))) ∧ Pl t = nI (Pq B L t)) ∧ Cd n = nI 0 ∧ Vl n = nI 0 ∧ Pl n = nI L := by
  have blank : ∀ f j t Cd Vl Pl q, L < f + j → L < q + j → j ≤ L → ∃ q', (q + j ≤ q' + skp B L f j) ∧ f_X9_splits_7 N q (tS M t Cd Vl Pl) (nI L) (nI j) = f_X9_splits_7 N q' (tS M t Cd Vl Pl) (nI L) (nI (skp B L f j)) := by
    intro f
    induction f with
    | zero => intro j t Cd Vl Pl q h1 h2 h3; omega
    | succ f ih =>
      intro j t Cd Vl Pl q h1 h2 h3
      unfold skp
      by_cases c : j < L ∧ B j = 32
      · obtain ⟨q, rfl⟩ : ∃ q', q = q' + 1 := ⟨q - 1, by omega⟩
        obtain ⟨q', g1, g2⟩ := ih (j + 1) t Cd Vl Pl q (by omega) (by omega) (by omega)
        refine ⟨q', by rw [if_pos c]; omega, ?_⟩
        rw [if_pos c, ← g2, f_X9_splits_7, if_neg (by rw [nI_L (by omega) (by omega)]; omega), pl_ck (by omega) (by omega), nI_cl (by omega), tS_7, (hB j c.1).2, pl_bd, if_pos (show sb_b (B j) = 32 from (sb_E (c := 32) (hB j c.1).1 (by omega)).mpr c.2), nI_1, pl_bd]
      · exact ⟨q, by rw [if_neg c]; omega, by rw [if_neg c]⟩
  have main : ∀ d t (Cd Vl Pl : Nat → Int32) q, L ≤ Eq' B L t + d → t ≤ Eq' B L t → L < q + Eq' B L t → (∀ j, j < t → Pq B L j < L) → (∀ j, j < t → Cd j = nI (tcode (tkn B (Pq B L j) (EX B L (Pq B L j) - Pq B L j))) ∧ Vl j = nI (tvl B L (Pq B L j) (EX B L (Pq B L j))) ∧ Pl j = nI (Pq B L j)) → ∃ (n : Nat) (Cd' Vl' Pl' : Nat → Int32), n ≤ L ∧ f_X9_splits_7 N q (tS M t Cd Vl Pl) (nI L) (nI (Eq' B L t)) = some (tS M n Cd' Vl' Pl') ∧ Pq B L n = L ∧ (∀ j, j < n → Pq B L j < L) ∧ (∀ j, j < n → Cd' j = nI (tcode (tkn B (Pq B L j) (EX B L (Pq B L j) - Pq B L j))) ∧ Vl' j = nI (tvl B L (Pq B L j) (EX B L (Pq B L j))) ∧ Pl' j = nI (Pq B L j)) ∧ Cd' n = nI 0 ∧ Vl' n = nI 0 ∧ Pl' n = nI L := by
    intro d
    induction d with
    | zero =>
      intro t Cd Vl Pl q h1 h2 h3 h4 h5
      have el := Eq_le B hL t
      have e : Eq' B L t = L := by omega
      obtain ⟨p1, p2, p3⟩ := Pq_le B hL t
      obtain ⟨q, rfl⟩ : ∃ q', q = q' + 1 := ⟨q - 1, by omega⟩
      refine ⟨t, upd Cd t (nI 0), upd Vl t (nI 0), upd Pl t (nI L), by omega, ?_, by omega, h4, fun j hj => ?_, upd_e _ _ _, upd_e _ _ _, upd_e _ _ _⟩
      · rw [f_X9_splits_7, e, if_pos (by rw [nI_L (by omega) (by omega)]; omega), tS_18, pl_ck (by omega) (by omega), nI_cl (by omega), tS_11, pl_bd, tS_18, pl_ck (by omega) (by omega), nI_cl (by omega), lj 0, tS_9, pl_bd, tS_18, pl_ck (by omega) (by omega), nI_cl (by omega), tS_10]; rfl
      · rw [upd_n _ _ _ _ (by omega), upd_n _ _ _ _ (by omega), upd_n _ _ _ _ (by omega)]; exact h5 j hj
    | succ d ih =>
      intro t Cd Vl Pl q h1 h2 h3 h4 h5
      have el := Eq_le B hL t
      obtain ⟨p1, p2, p3⟩ := Pq_le B hL t
      obtain ⟨q', g1, g2⟩ := blank 401 (Eq' B L t) t Cd Vl Pl q (by omega) h3 el
      have g2' : f_X9_splits_7 N q (tS M t Cd Vl Pl) (nI L) (nI (Eq' B L t)) = f_X9_splits_7 N q' (tS M t Cd Vl Pl) (nI L) (nI (Pq B L t)) := g2
      have g1' : q + Eq' B L t ≤ q' + Pq B L t := g1
      rw [g2']
      obtain ⟨q', rfl⟩ : ∃ q'', q' = q'' + 1 := ⟨q' - 1, by omega⟩
      by_cases c : Pq B L t < L
      · obtain ⟨x1, x2, -, -⟩ := EX_p B hL c
        rw [m_token hN hW hL hB (by omega) c (p3 c) Cd Vl Pl q']
        have ee : Eq' B L (t + 1) = EX B L (Pq B L t) := rfl
        rw [← ee]
        refine ih (t + 1) _ _ _ q' (by rw [ee]; omega) (by rw [ee]; omega) (by rw [ee]; omega) (fun j hj => ?_) (fun j hj => ?_)
        · by_cases hjt : j = t
          · rw [hjt]; exact c
          · exact h4 j (by omega)
        · by_cases hjt : j = t
          · subst hjt
            rw [upd_e, upd_e, upd_e]
            exact ⟨rfl, rfl, rfl⟩
          · rw [upd_n _ _ _ _ hjt, upd_n _ _ _ _ hjt, upd_n _ _ _ _ hjt]; exact h5 j (by omega)
      · have e : Pq B L t = L := by omega
        refine ⟨t, upd Cd t (nI 0), upd Vl t (nI 0), upd Pl t (nI L), by omega, ?_, e, h4, fun j hj => ?_, upd_e _ _ _, upd_e _ _ _, upd_e _ _ _⟩
        · rw [f_X9_splits_7, e, if_pos (by rw [nI_L (by omega) (by omega)]; omega), tS_18, pl_ck (by omega) (by omega), nI_cl (by omega), tS_11, pl_bd, tS_18, pl_ck (by omega) (by omega), nI_cl (by omega), lj 0, tS_9, pl_bd, tS_18, pl_ck (by omega) (by omega), nI_cl (by omega), tS_10]; rfl
        · rw [upd_n _ _ _ _ (by omega), upd_n _ _ _ _ (by omega), upd_n _ _ _ _ (by omega)]; exact h5 j hj
  have s0 : sF M 0 18 (0 : Int32) = tS M 0 (M.2.1 9) (M.2.1 10) (M.2.1 11) := by
    unfold sF tS
    refine Prod.ext ?_ (Prod.ext ?_ rfl)
    · funext h j; rfl
    · funext h
      by_cases c1 : h = 9
      · subst c1; rfl
      · by_cases c2 : h = 10
        · subst c2; rfl
        · by_cases c3 : h = 11
          · subst c3; rfl
          · show M.2.1 h = (if h = 9 then M.2.1 9 else if h = 10 then M.2.1 10 else if h = 11 then M.2.1 11 else M.2.1 h)
            rw [if_neg c1, if_neg c2, if_neg c3]
  unfold f_X9_splits
  rw [s0, pl_bd]
  exact main L 0 (M.2.1 9) (M.2.1 10) (M.2.1 11) N (by omega) (Nat.zero_le _) (by show L < N + 0; omega) (fun j hj => absurd hj (Nat.not_lt_zero j)) (fun j hj => absurd hj (Nat.not_lt_zero j))
end T
end
