section
/-! fewest: the reference's sets and costs -/
def abN (h : Nat) : Nat := if h &&& 31 = 0 then 0 else if h / 32 = 0 then 0 else 1
def hcN (h : Nat) : Nat := cnt h 25 - abN h
theorem abN_1 (h : Nat) : abN h ≤ 1 := by
  unfold abN
  by_cases c : h &&& 31 = 0
  · rw [if_pos c]; omega
  · rw [if_neg c]
    by_cases d : h / 32 = 0
    · rw [if_pos d]; omega
    · rw [if_neg d]; omega
theorem cnt_p {h : Nat} (h0 : h ≠ 0) (hl : h < 1024) : 1 ≤ cnt h 25 := by
  rw [cnt_ct]
  obtain ⟨i, hi, li⟩ := Lo_ex (n := 10) h0 hl
  have := fb_ct_pos (p := fun j => h.testBit j) (n := 25) |>.mpr ⟨i, by omega, li.1⟩
  omega
theorem abN_c {h : Nat} (hl : h < 1024) : abN h ≤ cnt h 25 := by
  by_cases h0 : h = 0
  · subst h0
    have : abN 0 = 0 := rfl
    omega
  · have := cnt_p h0 hl
    have := abN_1 h
    omega
theorem m_cost {N h : Nat} (hN : 20000 ≤ N) (hl : h < 1024) : f_X9_heapCost N (nI h) = some (nI (hcN h)) := by
  have a := abN_c hl
  have c25 := cnt_le h 25
  have sh : nI h >>> ((5 : Int32) &&& 31) = nI (h / 32) := pk_shrN (n := h) (by omega) ((5 : Int32) &&& 31) 5 (s_l 5 (by omega))
  have an : nI h &&& (31 : Int32) = nI (h &&& 31) := by rw [lj 31, fa_and]
  have l1 : h &&& 31 ≤ h := Nat.and_le_left
  have ab : f_X9_areBoth N (nI h) = some (nI (abN h)) := by
    unfold f_X9_areBoth abN
    rw [an, sh]
    by_cases c : h &&& 31 = 0
    · rw [if_pos (show nI (h &&& 31) = 0 by rw [c]; rfl), if_pos c]; rfl
    · rw [if_neg (nI_ne0 (by omega) (by omega)), if_neg c]
      by_cases d : h / 32 = 0
      · rw [if_pos (show nI (h / 32) = 0 by rw [d]; rfl), if_pos d]; rfl
      · rw [if_neg (nI_ne0 (by omega) (by omega)), if_neg d]; rfl
  unfold f_X9_heapCost hcN
  rw [m_onesC hN (by omega), pl_ob1, ab, pl_ob1]
  have := abN_1 h
  rcases (by omega : abN h = 0 ∨ abN h = 1) with e | e
  · rw [e, if_pos (show nI 0 = 0 from rfl), show (0 : Int32) = nI 0 from rfl, pk_sub (by omega)]
  · rw [e, if_neg (show ¬ nI 1 = 0 by decide), lj 1, pk_sub (by omega)]
/-- how each set stands -/
theorem m_bal {N : Nat} (hN : 20000 ≤ N) {M : Vt} {o : Nat → Int32} (ho : ∀ k, k < 10 → M.2.1 15 k = o k) : ∃ g, (∀ s, s < 1024 → g s = bsum (fun k => if k < 5 then o k else -(o k)) 10 s) ∧ f_X9_laysBalance N M = some (pA M 16 g) := by
  obtain ⟨y, hy⟩ : ∃ y : Nat → Int32, y = fun k => if k < 5 then o k else -(o k) := ⟨_, rfl⟩
  obtain ⟨g, hg, k, en⟩ := lpN N (fun k (g : Nat → Int32) s => f_X9_laysBalance_2 N k (pA M 16 g) s) 1024 (fun t g => ∀ r, r < t → g r = bsum y 10 r) (by
    intro s g hs h1
    obtain ⟨g2, ⟨a1, a2⟩, k2, en2⟩ := lpN N (fun k (g : Nat → Int32) j => some (fun K2 : Vt → Int32 → Option Vt => f_X9_laysBalance_18 N K2 k (pA M 16 g) (nI s) j)) 10 (fun j g => g s = bsum y j s ∧ ∀ r, r < s → g r = bsum y 10 r) (by
      intro j g hj ⟨b1, b2⟩
      have ii := m_isIn N (F := s) (i := j) (by omega) (by omega)
      rw [bit_div] at ii
      have a15 : ∀ g, (pA M 16 g).2.1 15 j = o j := fun g => by rw [pA_n _ _ _ _ (by omega)]; exact ho j hj
      have a16 : ∀ g, (pA M 16 g).2.1 16 s = g s := fun g => by rw [pA_e]
      have n10 : ¬ (10 : Int32) ≤ nI j := by rw [lj 10, nI_L (by omega) (by omega)]; omega
      have e62 : ∀ K2 k g, f_X9_laysBalance_62 N (f_X9_laysBalance_18 N K2 k) (pA M 16 g) (nI s) (nI j) = f_X9_laysBalance_18 N K2 k (pA M 16 g) (nI s) (nI (j + 1)) := fun K2 k g => by
        unfold f_X9_laysBalance_62
        rw [nI_1, pl_bd]
      cases q : s.testBit j with
      | false =>
        refine ⟨g, ⟨by simp only [bsum]; rw [q, b1]; simp, b2⟩, fun k => ?_⟩
        congr 1
        funext K2
        rw [q] at ii
        rw [f_X9_laysBalance_18, if_neg n10, ii, pl_ob1, if_pos (show nI (bN false) = 0 from rfl), e62]
      | true =>
        refine ⟨upd g s (g s + y j), ⟨by rw [upd_e]; simp only [bsum]; rw [q, b1]; simp, fun r hr => by rw [upd_n _ _ _ _ (by omega)]; exact b2 r hr⟩, fun k => ?_⟩
        congr 1
        funext K2
        rw [q] at ii
        have e60 : ∀ z, f_X9_laysBalance_60 N (f_X9_laysBalance_18 N K2 k) (pA M 16 g) (nI s) (nI j) z (g s) (nI s) = f_X9_laysBalance_18 N K2 k (pA M 16 (upd g s (g s + z))) (nI s) (nI (j + 1)) := fun z => by
          unfold f_X9_laysBalance_60
          rw [pl_ck (by omega) (by omega), nI_cl (by omega), sA_pAe, pl_bd, e62]
        rw [f_X9_laysBalance_18, if_neg n10, ii, pl_ob1, if_neg (show ¬ nI (bN true) = 0 by decide), pl_ck (by omega) (by omega), nI_cl (by omega), nI_cl (by omega), a15, a16]
        have hyj : y j = if j < 5 then o j else -(o j) := by rw [hy]
        by_cases c5 : j < 5
        · rw [if_neg (show ¬ (5 : Int32) ≤ nI j by rw [lj 5, nI_L (by omega) (by omega)]; omega), pl_ck (by omega) (by omega), e60, hyj, if_pos c5]
        · rw [if_pos (show (5 : Int32) ≤ nI j by rw [lj 5, nI_L (by omega) (by omega)]; omega), pl_ck (by omega) (by omega), e60, hyj, if_neg c5]) (upd g s 0) (by omega) ⟨by rw [upd_e]; rfl, fun r hr => by rw [upd_n _ _ _ _ (by omega)]; exact h1 r hr⟩
    refine ⟨g2, fun r hr => ?_, fun k => ?_⟩
    · rcases (by omega : r < s ∨ r = s) with q | q
      · exact a2 r q
      · rw [q]; exact a1
    · show f_X9_laysBalance_2 N (k + 1) (pA M 16 g) (nI s) = _
      have en3 : f_X9_laysBalance_18 N (f_X9_laysBalance_2 N k) N (pA M 16 (upd g s 0)) (nI s) (nI 0) = f_X9_laysBalance_18 N (f_X9_laysBalance_2 N k) (k2 + 1) (pA M 16 g2) (nI s) (nI 10) := congrFun (Option.some.inj en2) (f_X9_laysBalance_2 N k)
      rw [f_X9_laysBalance_2, if_neg (show ¬ (1024 : Int32) ≤ nI s by rw [lj 1024, nI_L (by omega) (by omega)]; omega), pl_ck (by omega) (by omega), nI_cl (by omega), sA_pAe, pl_bd, show f_X9_laysBalance_18 N (f_X9_laysBalance_2 N k) N (pA M 16 (upd g s 0)) (nI s) 0 = f_X9_laysBalance_18 N (f_X9_laysBalance_2 N k) (k2 + 1) (pA M 16 g2) (nI s) (nI 10) from en3, f_X9_laysBalance_18, if_pos (by decide), nI_1, pl_bd]) (M.2.1 16) (by omega) (fun r hr => absurd hr (Nat.not_lt_zero r))
  refine ⟨g, fun s hs => by rw [← hy]; exact hg s hs, ?_⟩
  have en' : f_X9_laysBalance_2 N N (pA M 16 (M.2.1 16)) (nI 0) = f_X9_laysBalance_2 N (k + 1) (pA M 16 g) (nI 1024) := en
  rw [pA_self] at en'
  show f_X9_laysBalance_2 N N M 0 = _
  rw [show (0 : Int32) = nI 0 from rfl, en', f_X9_laysBalance_2, if_pos (by decide)]
/-- the loop over the heaps of a set -/
theorem m_f102 {N : Nat} (hN : 20000 ≤ N) {M : Vt} {y : Nat → Int32} (h16 : ∀ s, s < 1024 → M.2.1 16 s = bsum y 10 s) {s al i : Nat} (hs : s < 1024) (hal : Sub' s al) (li : Lo s i) (hi : i < 10) {c : Nat → Nat} {g0 : Nat → Int32} (hc : ∀ r, r < s → Sub' r al → bsum y 10 r = 0 → g0 r = nI (c r) ∧ c r ≤ 25) :
    ∀ v g, Sub' v s → (∀ r, r ≠ s → g r = g0 r) → ∃ g', (∀ r, r ≠ s → g' r = g0 r) ∧ (∀ K70 k, v < k → f_X9_fewest_102 N K70 k (pA M 17 g) (nI al) (nI s) (nI (2 ^ i)) (nI v) = f_X9_fewest_166 N K70 (pA M 17 g') (nI al) (nI s)) ∧ (bsum y 10 s = 0 → ∀ b, b ≤ 1000000 → g s = nI b → ∃ b', b' ≤ b ∧ g' s = nI b' ∧ (∀ h, Sub' h s → h.testBit i = true → h ≤ v → bsum y 10 h = 0 → b' ≤ hcN h + c (s ^^^ h)) ∧ (b' = b ∨ ∃ h, Sub' h s ∧ h.testBit i = true ∧ bsum y 10 h = 0 ∧ b' = hcN h + c (s ^^^ h))) := by
  intro v
  have W := bsum_w y 10
  induction v using Nat.strongRecOn with
  | _ v ih =>
    intro g hv hh
    have lv := sb_le hv
    by_cases v0 : v = 0
    · subst v0
      refine ⟨g, hh, fun K70 k hk => ?_, fun hb b hb2 e => ⟨b, Nat.le_refl _, e, fun h h1 h2 h3 => absurd (show h = 0 by omega) (tb_ne h2), Or.inl rfl⟩⟩
      obtain ⟨k', rfl⟩ : ∃ z, k = z + 1 := ⟨k - 1, by omega⟩
      rw [f_X9_fewest_102, if_pos (by decide)]
    · have w1 := nx_lt v s (by omega)
      have w2 := nx_sub v s
      have nv : ¬ nI v ≤ 0 := by rw [show (0 : Int32) = nI 0 from rfl, nI_L (by omega) (by omega)]; omega
      have e155 : ∀ K70 k g, f_X9_fewest_155 N (f_X9_fewest_102 N K70 k) (pA M 17 g) (nI al) (nI s) (nI (2 ^ i)) (nI v) = f_X9_fewest_102 N K70 k (pA M 17 g) (nI al) (nI s) (nI (2 ^ i)) (nI ((v - 1) &&& s)) := fun K70 k g => by
        unfold f_X9_fewest_155
        rw [lj 1, pk_sub (by omega), fa_and, pl_bd]
      have xlt : s ^^^ v < s := xl hv v0
      have a17 : ∀ g j, (pA M 17 g).2.1 17 j = g j := fun g j => by rw [pA_e]
      have a16 : ∀ g, (pA M 17 g).2.1 16 v = bsum y 10 v := fun g => by rw [pA_n _ _ _ _ (by omega)]; exact h16 v (by omega)
      have skip : (∀ K70 k g, f_X9_fewest_102 N K70 (k + 1) (pA M 17 g) (nI al) (nI s) (nI (2 ^ i)) (nI v) = f_X9_fewest_102 N K70 k (pA M 17 g) (nI al) (nI s) (nI (2 ^ i)) (nI ((v - 1) &&& s))) → ¬ (v.testBit i = true ∧ bsum y 10 v = 0) → ∃ g', (∀ r, r ≠ s → g' r = g0 r) ∧ (∀ K70 k, v < k → f_X9_fewest_102 N K70 k (pA M 17 g) (nI al) (nI s) (nI (2 ^ i)) (nI v) = f_X9_fewest_166 N K70 (pA M 17 g') (nI al) (nI s)) ∧ (bsum y 10 s = 0 → ∀ b, b ≤ 1000000 → g s = nI b → ∃ b', b' ≤ b ∧ g' s = nI b' ∧ (∀ h, Sub' h s → h.testBit i = true → h ≤ v → bsum y 10 h = 0 → b' ≤ hcN h + c (s ^^^ h)) ∧ (b' = b ∨ ∃ h, Sub' h s ∧ h.testBit i = true ∧ bsum y 10 h = 0 ∧ b' = hcN h + c (s ^^^ h))) := by
        intro eq no
        obtain ⟨g', q1, q2, q3⟩ := ih ((v - 1) &&& s) w1 g w2 hh
        refine ⟨g', q1, fun K70 k hk => ?_, fun hb b hb2 e => ?_⟩
        · obtain ⟨k', rfl⟩ : ∃ z, k = z + 1 := ⟨k - 1, by omega⟩
          rw [eq]; exact q2 K70 k' (by omega)
        · obtain ⟨b', p0, p1, p2, p3⟩ := q3 hb b hb2 e
          refine ⟨b', p0, p1, fun h h1 h2 h3 h4 => ?_, p3⟩
          by_cases er : h = v
          · subst er; exact absurd ⟨h2, h4⟩ no
          · exact p2 h h1 h2 (nxt v s h hv h1 (by omega)) h4
      cases q : v.testBit i with
      | false =>
        have fb : (nI v &&& nI (2 ^ i)) = 0 := (fa_bit (by omega)).mpr q
        exact skip (fun K70 k g => by rw [f_X9_fewest_102, if_neg nv, if_pos fb, e155]) (fun z => by rw [q] at z; cases z.1)
      | true =>
        have fb : ¬ (nI v &&& nI (2 ^ i)) = 0 := fun z => by rw [(fa_bit (by omega)).mp z] at q; cases q
        by_cases cz : bsum y 10 v = 0
        · obtain ⟨z, hz⟩ : ∃ z, z = mnI (g s) (nI (hcN v) + g (s ^^^ v)) := ⟨_, rfl⟩
          obtain ⟨g', q1, q2, q3⟩ := ih ((v - 1) &&& s) w1 (upd g s z) w2 (fun r hr => by rw [upd_n _ _ _ _ hr]; exact hh r hr)
          refine ⟨g', q1, fun K70 k hk => ?_, fun hb b hb2 e => ?_⟩
          · obtain ⟨k', rfl⟩ : ∃ z, k = z + 1 := ⟨k - 1, by omega⟩
            rw [f_X9_fewest_102, if_neg nv, if_neg fb, pl_ck (by omega) (by omega), nI_cl (by omega), a16, if_pos cz, pl_ck (by omega) (by omega), m_cost hN (by omega), pl_ob1, fb_xorI, pl_ck (by omega) (by omega), nI_cl (by omega), nI_cl (by omega), a17, a17, mnI_less, pl_ob1, pl_ck (by omega) (by omega), ← hz, sA_pAe, pl_bd, e155]
            exact q2 K70 k' (by omega)
          · obtain ⟨r1, r2⟩ := hc (s ^^^ v) xlt (sb_t (sb_x hv) hal) (W.2.1 _ _ hv hb cz)
            have hcl : hcN v ≤ 25 := by unfold hcN; have := cnt_le v 25; omega
            have ez : z = nI (min b (hcN v + c (s ^^^ v))) := by
              rw [hz, e, hh _ (by omega), r1, nI_add, mn_nI (by omega) (by omega)]
            obtain ⟨b', p0, p1, p2, p3⟩ := q3 hb (min b (hcN v + c (s ^^^ v))) (by omega) (by rw [upd_e]; exact ez)
            refine ⟨b', by omega, p1, fun h h1 h2 h3 h4 => ?_, ?_⟩
            · by_cases er : h = v
              · subst er; omega
              · exact p2 h h1 h2 (nxt v s h hv h1 (by omega)) h4
            · rcases p3 with p3 | p3
              · rcases (by omega : b' = b ∨ b' = hcN v + c (s ^^^ v)) with w | w
                · exact Or.inl w
                · exact Or.inr ⟨v, hv, q, cz, w⟩
              · exact Or.inr p3
        · exact skip (fun K70 k g => by rw [f_X9_fewest_102, if_neg nv, if_neg fb, pl_ck (by omega) (by omega), nI_cl (by omega), a16, if_neg cz, e155]) (fun z => cz z.2)
def CG (y : Nat → Int32) (al t : Nat) (g : Nat → Int32) (c : Nat → Nat) : Prop := c 0 = 0 ∧ (∀ r, r < t → Sub' r al → bsum y 10 r = 0 → g r = nI (c r) ∧ c r ≤ cnt r 25) ∧ (∀ s i, s < t → Sub' s al → s ≠ 0 → bsum y 10 s = 0 → Lo s i → ∀ h, Sub' h s → h.testBit i = true → bsum y 10 h = 0 → c s ≤ hcN h + c (s ^^^ h)) ∧ ∀ s i, s < t → Sub' s al → s ≠ 0 → bsum y 10 s = 0 → Lo s i → ∃ h, Sub' h s ∧ h.testBit i = true ∧ bsum y 10 h = 0 ∧ c s = hcN h + c (s ^^^ h)
theorem CG_more {y : Nat → Int32} {al t : Nat} {h h' : Nat → Int32} {G : Nat → Nat} (g : CG y al t h G) (hh : ∀ r, r ≠ t → h' r = h r) (no : ¬ (Sub' t al ∧ bsum y 10 t = 0)) : CG y al (t + 1) h' G := by
  obtain ⟨g0, g1, g2, g3⟩ := g
  have lt : ∀ s, s < t + 1 → Sub' s al → bsum y 10 s = 0 → s < t := fun s hs ha hb => by
    rcases (by omega : s < t ∨ s = t) with q | q
    · exact q
    · rw [q] at ha hb; exact absurd ⟨ha, hb⟩ no
  exact ⟨g0, fun r hr ha hb => by rw [hh r (by have := lt r hr ha hb; omega)]; exact g1 r (lt r hr ha hb) ha hb, fun s i hs ha s0 hb => g2 s i (lt s hs ha hb) ha s0 hb, fun s i hs ha s0 hb => g3 s i (lt s hs ha hb) ha s0 hb⟩
theorem m_f70 {N : Nat} (hN : 20000 ≤ N) {M : Vt} {y : Nat → Int32} (h16 : ∀ s, s < 1024 → M.2.1 16 s = bsum y 10 s) (h17 : M.2.1 17 0 = nI 0) {al : Nat} (hal : al < 1024) (hb : bsum y 10 al = 0) : ∃ (g : Nat → Int32) (c : Nat → Nat), c al ≤ cnt al 25 ∧ HpT 10 al (fun t => bsum y 10 t = 0) abN (fun t => cnt t 25 - c t) ∧ f_X9_fewest_70 N N M (nI al) 1 = some (nI (c al), pA M 17 g) := by
  have W := bsum_w y 10
  obtain ⟨g, ⟨t1, c, g0, g1, g2, g3⟩, en⟩ := lpE (fun k (g : Nat → Int32) t => f_X9_fewest_70 N k (pA M 17 g) (nI al) t) (al + 1) (fun t g => 1 ≤ t ∧ ∃ c, CG y al t g c) (by
    rintro t g ht ⟨t1, c, cg⟩
    have cg' := cg
    obtain ⟨g0, g1, g2, g3⟩ := cg
    have lt : ¬ nI al < nI t := by rw [nI_T (by omega) (by omega)]; omega
    have e166 : ∀ k g, f_X9_fewest_166 N (f_X9_fewest_70 N k) (pA M 17 g) (nI al) (nI t) = f_X9_fewest_70 N k (pA M 17 g) (nI al) (nI (t + 1)) := fun k g => by
      unfold f_X9_fewest_166
      rw [nI_1, pl_bd]
    by_cases sa : Sub' t al
    · have c1 : (nI t &&& (nI al ^^^ (-1 : Int32))) = 0 := (nAll' (by omega)).mpr sa
      obtain ⟨i, hi, li, ei⟩ := lw_of (show t < 1024 by omega) (by omega)
      have st : ∀ k, f_X9_fewest_70 N (k + 1) (pA M 17 g) (nI al) (nI t) = f_X9_fewest_102 N (f_X9_fewest_70 N k) N (pA M 17 (upd g t (nI 1000000))) (nI al) (nI t) (nI (2 ^ i)) (nI t) := fun k => by
        rw [f_X9_fewest_70, if_neg lt, if_pos c1, ei, pl_bd, pl_ck (by omega) (by omega), nI_cl (by omega), sA_pAe, pl_bd]; rfl
      obtain ⟨g', q1, q2, q3⟩ := m_f102 hN h16 (s := t) (al := al) (i := i) (c := c) (g0 := g) (by omega) sa li hi (fun r hr ha hb => ⟨(g1 r hr ha hb).1, by have := (g1 r hr ha hb).2; have := cnt_le r 25; omega⟩) t (upd g t (nI 1000000)) (sb_r t) (fun r hr => by rw [upd_n _ _ _ _ hr])
      have eq : ∀ k, f_X9_fewest_70 N (k + 1) (pA M 17 g) (nI al) (nI t) = f_X9_fewest_70 N k (pA M 17 g') (nI al) (nI (t + 1)) := fun k => by
        rw [st k, q2 _ N (by omega), e166]
      by_cases bt : bsum y 10 t = 0
      · obtain ⟨b, p0, p1, p2, p3⟩ := q3 bt 1000000 (Nat.le_refl _) (by rw [upd_e])
        have self := p2 t (sb_r t) li.1 (Nat.le_refl _) bt
        rw [Nat.xor_self, g0] at self
        have hct : hcN t ≤ cnt t 25 := by unfold hcN; omega
        have c25 := cnt_le t 25
        refine ⟨g', ⟨by omega, fun r => if r = t then b else c r, ?_⟩, eq⟩
        have Go : ∀ r, r ≠ t → (fun r => if r = t then b else c r) r = c r := fun r hr => if_neg hr
        have Gt : (fun r => if r = t then b else c r) t = b := if_pos rfl
        refine ⟨by rw [Go 0 (by omega)]; exact g0, fun r hr ha hb => ?_, fun s j hs ha s0 hb lj h hh hj kb => ?_, fun s j hs ha s0 hb lj => ?_⟩
        · by_cases e : r = t
          · rw [e, Gt]; exact ⟨p1, by omega⟩
          · rw [Go r e, q1 r e]; exact g1 r (by omega) ha hb
        · have l1 := xl hh (tb_ne hj)
          rw [Go (s ^^^ h) (by omega)]
          by_cases e : s = t
          · rw [e, Gt]
            rw [e] at hh lj
            rw [Lo_one lj li] at hj
            exact p2 h hh hj (sb_le hh) kb
          · rw [Go s e]; exact g2 s j (by omega) ha s0 hb lj h hh hj kb
        · by_cases e : s = t
          · rw [e, Gt]
            rw [e] at lj
            rcases p3 with p3 | ⟨h, r1, r2, r3, r4⟩
            · exfalso; omega
            · have l1 := xl r1 (tb_ne r2)
              refine ⟨h, r1, by rw [Lo_one lj li]; exact r2, r3, ?_⟩
              rw [Go (t ^^^ h) (by omega)]; exact r4
          · obtain ⟨h, d1, d2, d3, d4⟩ := g3 s j (by omega) ha s0 hb lj
            have l1 := xl d1 (tb_ne d2)
            refine ⟨h, d1, d2, d3, ?_⟩
            rw [Go s e, Go (s ^^^ h) (by omega)]; exact d4
      · exact ⟨g', ⟨by omega, c, CG_more cg' q1 (fun q => bt q.2)⟩, eq⟩
    · refine ⟨g, ⟨by omega, c, CG_more cg' (fun _ _ => rfl) (fun q => sa q.1)⟩, fun k => ?_⟩
      show f_X9_fewest_70 N (k + 1) (pA M 17 g) (nI al) (nI t) = _
      rw [f_X9_fewest_70, if_neg lt, if_neg (fun q => sa ((nAll' (by omega)).mp q)), e166]) al 1 (M.2.1 17) (by omega) ⟨by omega, fun _ => 0, rfl, fun r hr _ _ => by
      have : r = 0 := by omega
      rw [this, h17]; exact ⟨rfl, Nat.zero_le _⟩, fun s i hs _ s0 => absurd (show s = 0 by omega) s0, fun s i hs _ s0 => absurd (show s = 0 by omega) s0⟩
  have lal := g1 al (by omega) (sb_r al) hb
  refine ⟨g, c, lal.2, ⟨by show cnt 0 25 - c 0 = 0; rw [g0]; decide, hal, fun s i hs s0 hb li h hh hi kb => ?_, fun s i hs s0 hb li => ?_⟩, ?_⟩
  · have ls := sb_le hs
    have lx := xl hh (tb_ne hi)
    have a1 := g2 s i (by omega) hs s0 hb li h hh hi kb
    have a2 := cnt_x hh 25
    have a3 := (g1 (s ^^^ h) (by omega) (sb_t (sb_x hh) hs) (W.2.1 _ _ hh hb kb)).2
    have a4 := (g1 s (by omega) hs hb).2
    have a5 := abN_c (h := h) (by have := sb_le hh; omega)
    show abN h + (cnt (s ^^^ h) 25 - c (s ^^^ h)) ≤ cnt s 25 - c s
    unfold hcN at a1
    omega
  · have ls := sb_le hs
    obtain ⟨h, d1, d2, d3, d4⟩ := g3 s i (by omega) hs s0 hb li
    have lx := xl d1 (tb_ne d2)
    have a2 := cnt_x d1 25
    have a3 := (g1 (s ^^^ h) (by omega) (sb_t (sb_x d1) hs) (W.2.1 _ _ d1 hb d3)).2
    have a5 := abN_c (h := h) (by have := sb_le d1; omega)
    refine ⟨h, d1, d2, d3, ?_⟩
    show cnt s 25 - c s = abN h + (cnt (s ^^^ h) 25 - c (s ^^^ h))
    unfold hcN at d4
    omega
  · have en' := en (N - al - 1 + 1)
    rw [show N - al - 1 + 1 + al = N by omega] at en'
    have en2 : f_X9_fewest_70 N N (pA M 17 (M.2.1 17)) (nI al) (nI 1) = f_X9_fewest_70 N (N - al - 1 + 1) (pA M 17 g) (nI al) (nI (al + 1)) := en'
    rw [pA_self] at en2
    have a1 : (pA M 17 g).2.1 17 al = nI (c al) := by rw [pA_e]; exact lal.1
    rw [show (1 : Int32) = nI 1 from rfl, en2, f_X9_fewest_70, if_pos (by rw [nI_T (by omega) (by omega)]; omega), pl_ck (by omega) (by omega), nI_cl (by omega), a1]
end
