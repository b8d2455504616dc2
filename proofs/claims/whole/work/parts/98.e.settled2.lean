section
/-! settled: the tables, the call -/
theorem Rel_h {X : TxP} {b0 : Nat} {S : St} {V V' M : Vt} (hR : Rel X b0 S V M) (a : ∀ g, g ≠ 58 → g ≠ 59 → g ≠ 60 → V'.2.1 g = V.2.1 g) (b : V'.1 = V.1) (c : V'.2.2 = V.2.2) (hz : Hz (V'.2.1 59) (V'.2.1 60)) : Rel X b0 S V' M := by
  obtain ⟨h1, h2, h3, h4, h5, h6, h7, h8, h9, h10⟩ := hR
  have g6 : G6o V V' := fun g hg => ⟨by rw [b], a g (by omega) (by omega) (by omega), by rw [c]⟩
  refine ⟨h1, ?_, ?_, ?_, ?_, ?_, ?_, ?_, ?_, h10.1, hz⟩
  · rw [b, a 2 (by omega) (by omega) (by omega), a 3 (by omega) (by omega) (by omega), a 4 (by omega) (by omega) (by omega), a 5 (by omega) (by omega) (by omega), a 6 (by omega) (by omega) (by omega), a 7 (by omega) (by omega) (by omega), a 9 (by omega) (by omega) (by omega), a 10 (by omega) (by omega) (by omega)]; exact h2
  · rw [c, b]; exact BkL_g rfl rfl g6 (fun _ _ _ => rfl) h3
  · rw [c]; exact Ims_g g6 h4
  · rw [b, a 33 (by omega) (by omega) (by omega)]; exact h5
  · rw [b, a 36 (by omega) (by omega) (by omega)]; exact h6
  · rw [b, a 63 (by omega) (by omega) (by omega)]; exact h7
  · rw [b, a 23 (by omega) (by omega) (by omega), a 27 (by omega) (by omega) (by omega)]; exact h8
  · rw [b]; exact h9
def SG (y : Nat → Int32) (al t : Nat) (h : Nat → Int32) (G : Nat → Nat) : Prop := G 0 = 0 ∧ (∀ r, r < t → Sub' r al → bsum y 5 r = 0 → h r = nI (G r) ∧ G r ≤ r) ∧ (∀ s, s < t → Sub' s al → bsum y 5 s = 0 → ∀ k, Sub' k s → k ≠ 0 → bsum y 5 k = 0 → 1 + G (s ^^^ k) ≤ G s) ∧ ∀ s, s < t → Sub' s al → s ≠ 0 → bsum y 5 s = 0 → ∃ k, Sub' k s ∧ k ≠ 0 ∧ bsum y 5 k = 0 ∧ G s = 1 + G (s ^^^ k)
theorem SG_more {y : Nat → Int32} {al t : Nat} {h h' : Nat → Int32} {G : Nat → Nat} (g : SG y al t h G) (hh : ∀ r, r ≠ t → h' r = h r) (no : ¬ (Sub' t al ∧ bsum y 5 t = 0)) : SG y al (t + 1) h' G := by
  obtain ⟨g0, g1, g2, g3⟩ := g
  have lt : ∀ s, s < t + 1 → Sub' s al → bsum y 5 s = 0 → s < t := fun s hs ha hb => by
    rcases (by omega : s < t ∨ s = t) with q | q
    · exact q
    · rw [q] at ha hb; exact absurd ⟨ha, hb⟩ no
  exact ⟨g0, fun r hr ha hb => by rw [hh r (by have := lt r hr ha hb; omega)]; exact g1 r (lt r hr ha hb) ha hb, fun s hs ha hb => g2 s (lt s hs ha hb) ha hb, fun s hs ha s0 hb => g3 s (lt s hs ha hb) ha s0 hb⟩
theorem m_s37 {N : Nat} (hN : 20000 ≤ N) {M : Vt} {n : Nat} (hP : Pay (M.2.1 2) n) {al : Nat} (hal : al < 32) (hb : bsum (fun a => yB (M.2.1 2) a n) 5 al = 0) : ∃ h G, HpU al (fun t => bsum (fun a => yB (M.2.1 2) a n) 5 t = 0) (fun t => if t = 0 then 0 else 1) G ∧ G al ≤ 31 ∧ f_X9_settled_37 N N M (nI al) 0 = some (nI (cnt al 25) - nI (G al), pA M 21 h) := by
  obtain ⟨y, hy⟩ : ∃ y : Nat → Int32, y = fun a => yB (M.2.1 2) a n := ⟨_, rfl⟩
  have W := bsum_w y 5
  obtain ⟨h, ⟨G, g0, g1, g2, g3⟩, k, en⟩ := lpN N (fun k (h : Nat → Int32) t => f_X9_settled_37 N k (pA M 21 h) (nI al) t) (al + 1) (fun t h => ∃ G, SG y al t h G) (by
    rintro t h ht ⟨G, g⟩
    have g' := g
    obtain ⟨g0, g1, g2, g3⟩ := g
    have lt : ¬ nI al < nI t := by rw [nI_T (by omega) (by omega)]; omega
    have e128 : ∀ k h, f_X9_settled_128 N (f_X9_settled_37 N k) (pA M 21 h) (nI al) (nI t) = f_X9_settled_37 N k (pA M 21 h) (nI al) (nI (t + 1)) := fun k h => by
      unfold f_X9_settled_128
      rw [nI_1, pl_bd]
    by_cases sa : Sub' t al
    · have c1 : (nI t &&& (nI al ^^^ (-1 : Int32))) = 0 := (nAll' (by omega)).mpr sa
      by_cases t0 : t = 0
      · subst t0
        refine ⟨upd h 0 (nI 0), ⟨fun _ => 0, rfl, fun r hr _ _ => ?_, fun s hs _ _ k hk k0 => ?_, fun s hs _ s0 => absurd (show s = 0 by omega) s0⟩, fun k => ?_⟩
        · have : r = 0 := by omega
          rw [this, upd_e]; exact ⟨rfl, Nat.le_refl _⟩
        · exfalso
          have := sb_le hk
          omega
        · show f_X9_settled_37 N (k + 1) (pA M 21 h) (nI al) (nI 0) = _
          have z70 : ∀ K h, f_X9_settled_70 N K N (pA M 21 h) (nI al) (nI 0) (nI 0) = f_X9_settled_128 N K (pA M 21 h) (nI al) (nI 0) := fun K h => by
            obtain ⟨N', hN'⟩ : ∃ z, N = z + 1 := ⟨N - 1, by omega⟩
            have : ∀ N2, f_X9_settled_70 N2 K (N' + 1) (pA M 21 h) (nI al) (nI 0) (nI 0) = f_X9_settled_128 N2 K (pA M 21 h) (nI al) (nI 0) := fun N2 => by
              rw [f_X9_settled_70, if_pos (by decide)]
            have := this N
            rw [← hN'] at this
            exact this
          rw [f_X9_settled_37, if_neg lt, if_pos c1, if_pos (show nI 0 = 0 from rfl)]
          unfold f_X9_settled_67
          rw [show (0 : Int32) = nI 0 from rfl, pl_ck (by omega) (by omega), nI_cl (by omega), sA_pAe, pl_bd, z70, e128]
      · have st : ∀ k, f_X9_settled_37 N (k + 1) (pA M 21 h) (nI al) (nI t) = f_X9_settled_70 N (f_X9_settled_37 N k) N (pA M 21 (upd h t (-1))) (nI al) (nI t) (nI t) := fun k => by
          rw [f_X9_settled_37, if_neg lt, if_pos c1, if_neg (nI_ne0 (by omega) (by omega))]
          unfold f_X9_settled_67
          rw [pl_ck (by omega) (by omega), nI_cl (by omega), sA_pAe, pl_bd]
        have hG : ∀ r, r < t → Sub' r al → bsum (fun a => yB (M.2.1 2) a n) 5 r = 0 → h r = nI (G r) ∧ G r ≤ r := fun r hr ha hb => g1 r hr ha (by rw [hy]; exact hb)
        by_cases bt : bsum y 5 t = 0
        · -- the first heap is the set itself
          have h00 : h 0 = nI 0 := by have := (g1 0 (by omega) (sb_0 al) (bsum_0 y 5)).1; rw [this, g0]
          obtain ⟨h', q1, q2, q3⟩ := m_s70 hN hP (s := t) (al := al) (G := G) (h0 := h) (by omega) sa hG ((t - 1) &&& t) (upd (upd h t (-1)) t (nI 1)) (nx_sub t t) (fun r hr => by rw [upd_n _ _ _ _ hr, upd_n _ _ _ _ hr])
          have bt' : bsum (fun a => yB (M.2.1 2) a n) 5 t = 0 := by rw [← hy]; exact bt
          obtain ⟨b, p0, p1, p2, p3, p4⟩ := q3 bt' 1 (by omega) (by rw [upd_e])
          rw [← hy] at p3 p4
          have first : ∀ k, f_X9_settled_70 N (f_X9_settled_37 N k) N (pA M 21 (upd h t (-1))) (nI al) (nI t) (nI t) = f_X9_settled_70 N (f_X9_settled_37 N k) (N - 1) (pA M 21 (upd (upd h t (-1)) t (nI 1))) (nI al) (nI t) (nI ((t - 1) &&& t)) := fun k => by
            have mo : f_X9_moreOut N (pA M 21 (upd h t (-1))) (nI t) = some (bsum y 5 t) := by
              have := m_more hN (pA M 21 (upd h t (-1))) (n := n) (by rw [pA_n _ _ _ _ (by omega)]; exact hP) (s := t) (by omega)
              rw [pA_n _ _ _ _ (by omega), ← hy] at this
              exact this
            have gr : f_X9_greater N (-1) (nI 1) = some (nI 1) := by
              unfold f_X9_greater
              rw [if_pos (by decide)]
            have a0 : (pA M 21 (upd h t (-1))).2.1 21 0 = nI 0 := by rw [pA_e, upd_n _ _ _ _ (by omega)]; exact h00
            have at' : (pA M 21 (upd h t (-1))).2.1 21 t = -1 := by rw [pA_e, upd_e]
            have key : ∀ N2, f_X9_moreOut N2 (pA M 21 (upd h t (-1))) (nI t) = some (bsum y 5 t) → f_X9_greater N2 (-1) (nI 1) = some (nI 1) → ∀ k2, f_X9_settled_70 N2 (f_X9_settled_37 N k) (k2 + 1) (pA M 21 (upd h t (-1))) (nI al) (nI t) (nI t) = f_X9_settled_70 N2 (f_X9_settled_37 N k) k2 (pA M 21 (upd (upd h t (-1)) t (nI 1))) (nI al) (nI t) (nI ((t - 1) &&& t)) := fun N2 mo2 gr2 k2 => by
              rw [f_X9_settled_70, if_neg (show ¬ nI t ≤ 0 by rw [show (0 : Int32) = nI 0 from rfl, nI_L (by omega) (by omega)]; omega), mo2, pl_ob1, if_pos bt, fb_xorI, Nat.xor_self, pl_ck (by omega) (by omega), nI_cl (by omega), a0, if_neg (by decide), pl_ck (by omega) (by omega), nI_cl (by omega), at', pl_ck (by omega) (by omega), nI_1, Nat.zero_add, gr2, pl_ob1, pl_ck (by omega) (by omega), sA_pAe, pl_bd]
              unfold f_X9_settled_119
              rw [lj 1, pk_sub (by omega), fa_and, pl_bd]
            have := key N mo gr (N - 1)
            rw [show N - 1 + 1 = N by omega] at this
            exact this
          refine ⟨h', ⟨fun r => if r = t then b else G r, ?_⟩, fun k => ?_⟩
          · have Go : ∀ r, r ≠ t → (fun r => if r = t then b else G r) r = G r := fun r hr => if_neg hr
            have Gt : (fun r => if r = t then b else G r) t = b := if_pos rfl
            refine ⟨by rw [Go 0 (by omega)]; exact g0, fun r hr ha hb => ?_, fun s hs ha hb k hk k0 kb => ?_, fun s hs ha s0 hb => ?_⟩
            · by_cases e : r = t
              · rw [e, Gt]; exact ⟨p1, p0⟩
              · rw [Go r e, q1 r e]; exact g1 r (by omega) ha hb
            · have l1 := xl hk k0
              rw [Go (s ^^^ k) (by omega)]
              by_cases e : s = t
              · rw [e, Gt]
                rw [e] at hk
                by_cases ek : k = t
                · rw [ek, Nat.xor_self, g0]; omega
                · have lk := sb_le hk
                  have := p3 k hk (by omega) (nxt t t k (sb_r t) hk (by omega)) kb
                  omega
              · rw [Go s e]; exact g2 s (by omega) ha hb k hk k0 kb
            · by_cases e : s = t
              · rw [e, Gt]
                rcases p4 with p4 | ⟨r, r1, r2, r3, r4⟩
                · refine ⟨t, sb_r t, t0, bt, ?_⟩
                  rw [Nat.xor_self, Go 0 (by omega), g0, p4]
                · have l1 := xl r1 (by omega)
                  refine ⟨r, r1, by omega, r3, ?_⟩
                  rw [Go (t ^^^ r) (by omega), r4]; omega
              · obtain ⟨k, c1, c2, c3, c4⟩ := g3 s (by omega) ha s0 hb
                have l1 := xl c1 c2
                refine ⟨k, c1, c2, c3, ?_⟩
                rw [Go s e, Go (s ^^^ k) (by omega)]; exact c4
          · show f_X9_settled_37 N (k + 1) (pA M 21 h) (nI al) (nI t) = _
            have l2 := nx_lt t t (by omega)
            rw [st k, first k, q2 _ (N - 1) (by omega), e128]
        · obtain ⟨h', q1, q2, -⟩ := m_s70 hN hP (s := t) (al := al) (G := G) (h0 := h) (by omega) sa hG t (upd h t (-1)) (sb_r t) (fun r hr => by rw [upd_n _ _ _ _ hr])
          refine ⟨h', ⟨G, SG_more g' q1 (fun q => bt q.2)⟩, fun k => ?_⟩
          show f_X9_settled_37 N (k + 1) (pA M 21 h) (nI al) (nI t) = _
          rw [st k, q2 _ N (by omega), e128]
    · refine ⟨h, ⟨G, SG_more g' (fun _ _ => rfl) (fun q => sa q.1)⟩, fun k => ?_⟩
      show f_X9_settled_37 N (k + 1) (pA M 21 h) (nI al) (nI t) = _
      rw [f_X9_settled_37, if_neg lt, if_neg (fun q => sa ((nAll' (by omega)).mp q)), e128]) (M.2.1 21) (by omega) ⟨fun _ => 0, rfl, fun r hr => absurd hr (Nat.not_lt_zero r), fun s hs => absurd hs (Nat.not_lt_zero s), fun s hs => absurd hs (Nat.not_lt_zero s)⟩
  rw [← hy] at hb ⊢
  have lal := (g1 al (by omega) (sb_r al) hb).2
  refine ⟨h, G, ⟨g0, fun s k hs hb hk k0 kb => ?_, fun s hs s0 hb => ?_⟩, by omega, ?_⟩
  · show (if k = 0 then 0 else 1) + G (s ^^^ k) ≤ G s
    rw [if_neg k0]
    exact g2 s (by have := sb_le hs; omega) hs hb k hk k0 kb
  · obtain ⟨k, c1, c2, c3, c4⟩ := g3 s (by have := sb_le hs; omega) hs s0 hb
    refine ⟨k, c1, c2, c3, ?_⟩
    show G s = (if k = 0 then 0 else 1) + G (s ^^^ k)
    rw [if_neg c2]; exact c4
  · have en' : f_X9_settled_37 N N (pA M 21 (M.2.1 21)) (nI al) (nI 0) = f_X9_settled_37 N (k + 1) (pA M 21 h) (nI al) (nI (al + 1)) := en
    rw [pA_self] at en'
    have a1 : (pA M 21 h).2.1 21 al = nI (G al) := by rw [pA_e]; exact (g1 al (by omega) (sb_r al) hb).1
    rw [show (0 : Int32) = nI 0 from rfl, en', f_X9_settled_37, if_pos (by rw [nI_T (by omega) (by omega)]; omega), m_onesC hN (by omega), pl_ob1, pl_ck (by omega) (by omega), nI_cl (by omega), a1]
theorem bsum_z (y : Nat → Int32) {s t : Nat} : ∀ n, (∀ i, i < n → s.testBit i ≠ t.testBit i → y i = 0) → bsum y n s = bsum y n t
  | 0, _ => rfl
  | n + 1, h => by
    simp only [bsum]
    rw [bsum_z y n (fun i hi => h i (by omega))]
    congr 1
    by_cases q : s.testBit n = t.testBit n
    · rw [q]
    · rw [h n (by omega) q]
      cases s.testBit n <;> cases t.testBit n <;> simp
section OPS
variable {N b0 : Nat} {X : TxP}
theorem op_settled (hN : 20000 ≤ N) : Op_settled N b0 (Rel X b0) := by
  intro S V M hR _
  have hB := hR.2.1
  obtain ⟨n, hP⟩ := Pay_of hB.2.2.2.2.2.2.2.1
  obtain ⟨hz1, hz2⟩ := hR.2.2.2.2.2.2.2.2.2.2
  obtain ⟨y, hy⟩ : ∃ y : Nat → Int32, y = fun a => yB (M.2.1 2) a n := ⟨_, rfl⟩
  obtain ⟨p, hp⟩ : ∃ p : Nat → Bool, p = fun a => decide (¬ y a = 0) := ⟨_, rfl⟩
  have p1 : ∀ a, p a = true ↔ ¬ y a = 0 := fun a => by rw [hp]; exact decide_eq_true_iff
  have p0 : ∀ a, p a = false → y a = 0 := fun a h => Classical.byContradiction fun q => by rw [(p1 a).mpr q] at h; cases h
  -- the class's numbers
  obtain ⟨⟨f, c⟩, ⟨c1, c2⟩, k1, en1⟩ := lpN N (fun k (s : (Nat → Int32) × Int32) t => f_X8_settled_4 N S 0 k (pA V 58 s.1) s.2 t) 5 (fun t s => s.2 = nI (fb_ct p t) ∧ ∀ a, a < t → p a = true → s.1 (fb_ct p a) = y a) (by
    rintro t ⟨f, c⟩ ht ⟨c1, c2⟩
    have c1' : c = nI (fb_ct p t) := c1
    subst c1'
    have lt := fb_ct_le p t
    have bl : f_X0_balanceOf N S (pA V 58 f) (0 + 1) (nI t) = some (y t) := by
      rw [hy]
      exact x_bal hN S (pA V 58 f) hP (by rw [pA_n _ _ _ _ (by omega)]; exact hB.2.2.2.2.2.2.2.1) ht
    have e34 : ∀ k f z, f_X8_settled_34 N S 0 (f_X8_settled_4 N S 0 k) (pA V 58 f) z (nI t) = f_X8_settled_4 N S 0 k (pA V 58 f) z (nI (t + 1)) := fun k f z => by
      unfold f_X8_settled_34
      rw [nI_1, pl_bd]
    have n5 : ¬ (5 : Int32) ≤ nI t := by rw [lj 5, nI_L (by omega) (by omega)]; omega
    by_cases q : y t = 0
    · have qp : p t = false := by
        cases r : p t with
        | false => rfl
        | true => exact absurd q ((p1 t).mp r)
      refine ⟨(f, nI (fb_ct p (t + 1))), ⟨rfl, fun a ha hpa => ?_⟩, fun k => ?_⟩
      · rcases (by omega : a < t ∨ a = t) with h | h
        · exact c2 a h hpa
        · rw [h, qp] at hpa; cases hpa
      · show f_X8_settled_4 N S 0 (k + 1) (pA V 58 f) (nI (fb_ct p t)) (nI t) = f_X8_settled_4 N S 0 k (pA V 58 f) (nI (fb_ct p (t + 1))) (nI (t + 1))
        rw [f_X8_settled_4, if_neg n5, bl, pl_ob1, if_pos q, e34, fb_ct_succ, if_neg (by rw [qp]; decide)]; rfl
    · have qp : p t = true := (p1 t).mpr q
      refine ⟨(upd f (fb_ct p t) (y t), nI (fb_ct p (t + 1))), ⟨rfl, fun a ha hpa => ?_⟩, fun k => ?_⟩
      · show upd f (fb_ct p t) (y t) (fb_ct p a) = y a
        rcases (by omega : a < t ∨ a = t) with h | h
        · rw [upd_n _ _ _ _ (by have := ct_lt h hpa; omega)]; exact c2 a h hpa
        · rw [h, upd_e]
      · show f_X8_settled_4 N S 0 (k + 1) (pA V 58 f) (nI (fb_ct p t)) (nI t) = f_X8_settled_4 N S 0 k (pA V 58 (upd f (fb_ct p t) (y t))) (nI (fb_ct p (t + 1))) (nI (t + 1))
        have pt : f_X2_put N S (pA V 58 f) (0 + 57) (nI (fb_ct p t)) (y t) = some (pA V 58 (upd f (fb_ct p t) (y t))) := by
          unfold f_X2_put
          rw [pl_ck (by omega) (by omega), nI_cl (by omega), pl_bd]
          exact congrArg some (sA_pAe V 58 (fb_ct p t) f (y t))
        rw [f_X8_settled_4, if_neg n5, bl, pl_ob1, if_neg q, pt, pl_obv, nI_1, pl_bd, e34, fb_ct_succ, if_pos qp]) (V.2.1 58, nI 0) (by omega) ⟨rfl, fun a ha => absurd ha (Nat.not_lt_zero a)⟩
  have c1' : c = nI (fb_ct p 5) := c1
  subst c1'
  have u5 := fb_ct_le p 5
  obtain ⟨u, hu⟩ : ∃ u, u = fb_ct p 5 := ⟨_, rfl⟩
  have p2 : 2 ^ u ≤ 32 := (Nat.pow_le_pow_right (n := 2) (by omega) (by omega) : 2 ^ u ≤ 2 ^ 5)
  have pos := Nat.two_pow_pos u
  -- the reference's set
  obtain ⟨v, ⟨al, hv, hal, hA⟩, k2, en2⟩ := lpN N (fun k (v : Int32) t => f_X9_settled_4 N k M v t) 5 (fun t v => ∃ m, v = nI m ∧ m < 32 ∧ ∀ i, m.testBit i = true ↔ i < t ∧ p i = true) (by
    rintro t v ht ⟨m, rfl, hm, hb⟩
    have p5 : 2 ^ t < 32 := (Nat.pow_lt_pow_right (by omega) ht : 2 ^ t < 2 ^ 5)
    have shl : (1 : Int32) <<< (nI t &&& 31) = nI (2 ^ t) := one_shl (by omega)
    have mo : f_X9_moreOut N M (nI (2 ^ t)) = some (y t) := by
      rw [m_more hN M hP p5, bsum_1 _ ht, hy]
    have n5 : ¬ (5 : Int32) ≤ nI t := by rw [lj 5, nI_L (by omega) (by omega)]; omega
    have e27 : ∀ k a b, f_X9_settled_27 N (f_X9_settled_4 N k) M (nI t) a b = f_X9_settled_4 N k M (b ||| a) (nI (t + 1)) := fun k a b => by
      unfold f_X9_settled_27
      rw [pl_bd, nI_1, pl_bd]
    by_cases q : y t = 0
    · have qp : p t = false := by
        cases r : p t with
        | false => rfl
        | true => exact absurd q ((p1 t).mp r)
      refine ⟨nI m, ⟨m, rfl, hm, fun i => ?_⟩, fun k => ?_⟩
      · rw [hb i]
        constructor
        · rintro ⟨a, b⟩; exact ⟨by omega, b⟩
        · rintro ⟨a, b⟩
          refine ⟨?_, b⟩
          rcases (by omega : i < t ∨ i = t) with h | h
          · exact h
          · rw [h, qp] at b; cases b
      · show f_X9_settled_4 N (k + 1) M (nI m) (nI t) = _
        rw [f_X9_settled_4, if_neg n5, shl, mo, pl_ob1, if_pos q, e27, show (0 : Int32) = nI 0 from rfl, fa_or, Nat.or_zero]
    · have qp : p t = true := (p1 t).mpr q
      refine ⟨nI (m ||| 2 ^ t), ⟨m ||| 2 ^ t, rfl, Nat.or_lt_two_pow (n := 5) hm p5, fun i => ?_⟩, fun k => ?_⟩
      · rw [fb_bit_set, Bool.or_eq_true, decide_eq_true_iff, hb i]
        constructor
        · rintro (⟨a, b⟩ | h)
          · exact ⟨by omega, b⟩
          · rw [h]; exact ⟨by omega, qp⟩
        · rintro ⟨a, b⟩
          rcases (by omega : i < t ∨ i = t) with h | h
          · exact Or.inl ⟨h, b⟩
          · exact Or.inr h
      · show f_X9_settled_4 N (k + 1) M (nI m) (nI t) = _
        rw [f_X9_settled_4, if_neg n5, shl, mo, pl_ob1, if_neg q, e27, fa_or]) (nI 0) (by omega) ⟨0, rfl, by omega, fun i => ⟨fun h => (by rw [Nat.zero_testBit] at h; cases h), fun h => absurd h.1 (Nat.not_lt_zero i)⟩⟩
  have hA' : Al 5 p al := hA
  have hv' : v = nI al := hv
  subst hv'
  have bal0 : bsum y 5 al = 0 := by
    have e1 : bsum y 5 al = bsum y 5 31 := bsum_z y 5 (fun i hi hne => p0 i (by
      cases r : p i with
      | false => rfl
      | true =>
        exfalso
        apply hne
        rw [(hA i).mpr ⟨hi, r⟩, show (31 : Nat) = 2 ^ 5 - 1 from rfl, Nat.testBit_two_pow_sub_one, decide_eq_true hi]))
    rw [e1, hy, ← mo_sum hP (s := 31) (by omega) n (Nat.le_refl n), ouN_0 31 (Or.inr rfl) hP (Nat.le_refl n), Nat.xor_self, ouN_0 0 (Or.inl rfl) hP (Nat.le_refl n)]; rfl
  have hx : ∀ l, l < 5 → p l = true → f (fb_ct p l) = y l := fun l hl h => c2 l hl h
  have hsum : ∀ s t, Rl 5 p al s t → bsum f u s = bsum y 5 t := fun s t h => by
    have := Rl_sum hA' hx (fun l _ h => p0 l h) h 5 (Nat.le_refl 5)
    rw [hu]; exact this
  have full := Rl_all hA'
  rw [← hu] at full
  obtain ⟨f59, z59, hh⟩ := x_heaps (N := N) hN (S := S) (V := pA V 58 f) (x := f) (n := u) (p := 2 ^ u - 1) (q := 2 ^ u - 1) (by omega) (by omega) (by omega) (fun i _ => by rw [pA_e]) (by rw [pA_n _ _ _ _ (by omega)]; exact hz1) (by rw [pA_n _ _ _ _ (by omega)]; exact hz2)
  rcases hh with ⟨h1, -⟩ | ⟨h1, g, F, g0, F1, T, ex⟩
  · exact absurd ((hsum _ _ full).trans bal0) h1
  · obtain ⟨h21, G, U', G1, em⟩ := m_s37 hN hP hal (by rw [← hy]; exact bal0)
    rw [← hy] at U'
    have U := Hp_U (bsum_w f u) T
    have FG : F (2 ^ u - 1) = G al := Hp_eq (bsum_w f u) (bsum_w y 5) U U' (Rl 5 p al) (fun s t h => by
      have z := Rl_0 hA' h
      have sD := Rl_sub hA' h
      rw [← hu] at sD
      refine ⟨sD, h.2.1, z, by rw [hsum s t h], ?_⟩
      show hbN (2 ^ u - 1) (2 ^ u - 1) s = if t = 0 then 0 else 1
      unfold hbN
      rw [sb_and sD]
      by_cases q : s = 0
      · rw [if_pos q, if_pos (z.mp q)]
      · rw [if_neg q, if_neg q, if_neg (fun w => q (z.mpr w))]) (fun s t h hR hh => Rl_1 hA' hR hh) (fun s t h hR hh => Rl_2 hA' hR hh) (2 ^ u - 1) al full h1
    refine ⟨nI u - nI (F (2 ^ u - 1)), pA (pA (pA V 58 f) 59 f59) 60 g, pA M 21 h21, ?_, ?_, ?_⟩
    · have e1 : f_X8_settled N S V 0 = f_X8_settled_4 N S 0 N (pA V 58 (V.2.1 58)) (nI 0) (nI 0) := by rw [pA_self]; rfl
      have e2 : f_X8_settled_4 N S 0 N (pA V 58 (V.2.1 58)) (nI 0) (nI 0) = f_X8_settled_4 N S 0 (k1 + 1) (pA V 58 f) (nI (fb_ct p 5)) (nI 5) := en1
      have shl : (1 : Int32) <<< (nI u &&& 31) = nI (2 ^ u) := one_shl (by omega)
      have ex' : f_X2_mostEven N S (pA V 58 f) (0 + 57) (nI u) (nI (2 ^ u - 1)) (nI (2 ^ u - 1)) = some (nI (F (2 ^ u - 1)), pA (pA (pA V 58 f) 59 f59) 60 g) := ex
      rw [e1, e2, ← hu, f_X8_settled_4, if_pos (by decide), shl, lj 1, pk_sub (by omega), pl_bd, ex', pl_ob]
    · have e1 : f_X9_settled N M = f_X9_settled_4 N (k2 + 1) M (nI al) (nI 5) := en2
      rw [e1, f_X9_settled_4, if_pos (by decide), em, ct_al hA' (by omega), ← hu, FG]
    · refine Rel_s (Rel_h hR (V' := pA (pA (pA V 58 f) 59 f59) 60 g) (fun a h1 h2 h3 => by rw [pA_n _ _ _ _ h3, pA_n _ _ _ _ h2, pA_n _ _ _ _ h1]) rfl rfl ⟨by rw [pA_n _ _ _ _ (by omega), pA_e]; exact z59, by rw [pA_e]; exact g0⟩) (SX_r _) ⟨fun a ha => pA_n _ _ _ _ (fun e => by rw [e] at ha; exact absurd ha (by decide)), fun j _ => rfl⟩
end OPS
end
