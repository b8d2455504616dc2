section
/-! next -/
theorem sIn {x : Int32} {v : Nat} (hv : v < 32) : ((x >>> (nI v &&& 31)) &&& 1 = 1) = (bt x v = true) := by
  have bits : ∀ i, i < 32 → bt ((x >>> (nI v &&& 31)) &&& 1) i = (decide (i = 0) && bt x v) := fun i hi => by
    rw [b_and, b_sshr v hv _ hi, b_one i hi]
    by_cases e : i = 0
    · subst e; rw [Nat.add_zero, if_pos hv]; simp
    · simp [e]
  apply propext
  constructor
  · intro e
    have := bits 0 (by omega)
    rw [e, b_one 0 (by omega)] at this
    simp at this
    exact this
  · intro q
    exact b_ext (fun i hi => by rw [bits i hi, q, b_one i hi, Bool.and_true])
theorem mx_nI {a b : Nat} (ha : a < 2147483648) (hb : b < 2147483648) : mxI (nI a) (nI b) = nI (max a b) := by
  unfold mxI
  by_cases h : a < b
  · rw [if_pos (by rw [nI_T ha hb]; exact h), Nat.max_eq_right (by omega)]
  · rw [if_neg (by rw [nI_T ha hb]; exact h), Nat.max_eq_left (by omega)]
def mxC (mask : Int32) (e : Nat → Nat) : Nat → Nat
  | 0 => 0
  | t + 1 => max (mxC mask e t) (if bt mask t = true then cpE mask e 6 (e t) else 0)
theorem cpE_mono (mask : Int32) (e : Nat → Nat) (p t : Nat) : ∀ d, cpE mask e t p ≤ cpE mask e (t + d) p
  | 0 => Nat.le_refl _
  | d + 1 => by
    have := cpE_mono mask e p t d
    rw [← Nat.add_assoc, cpE]
    omega
theorem cpE_mx (mask : Int32) (e : Nat → Nat) (p : Nat) : ∀ t, cpE mask e t p ≤ mxE mask e t
  | 0 => Nat.le_refl _
  | t + 1 => by
    have h := cpE_mx mask e p t
    by_cases q : bt mask t = true
    · rw [mxE, if_pos q]
      by_cases r : e t = p
      · rw [← r]; omega
      · rw [cpE, if_neg (fun h => r h.2)]; omega
    · rw [mxE, if_neg q, cpE, if_neg (fun h => q h.1)]; exact h
theorem mxE_C (mask : Int32) (e : Nat → Nat) : ∀ t, t ≤ 6 → mxE mask e t ≤ mxC mask e t
  | 0, _ => Nat.le_refl _
  | t + 1, ht => by
    have h := mxE_C mask e t (by omega)
    have h2 := cpE_mono mask e (e t) (t + 1) (6 - (t + 1))
    rw [show t + 1 + (6 - (t + 1)) = 6 by omega] at h2
    rw [mxE, mxC]
    by_cases q : bt mask t = true
    · rw [if_pos q, if_pos q]; omega
    · rw [if_neg q, if_neg q]; omega
theorem mxC_E (mask : Int32) (e : Nat → Nat) : ∀ t, mxC mask e t ≤ mxE mask e 6
  | 0 => Nat.zero_le _
  | t + 1 => by
    have h := mxC_E mask e t
    have h2 := cpE_mx mask e (e t) 6
    rw [mxC]
    by_cases q : bt mask t = true
    · rw [if_pos q]; omega
    · rw [if_neg q]; omega
theorem mxE_top {mask : Int32} (e : Nat → Nat) {n : Nat} (hm : ∀ i, i < 32 → bt mask i = true → i < n) : ∀ d, n + d ≤ 6 → mxE mask e (n + d) = mxE mask e n
  | 0, _ => rfl
  | d + 1, h => by
    rw [← Nat.add_assoc, mxE, if_neg (fun q => by have := hm (n + d) (by omega) q; omega)]
    exact mxE_top e hm d (by omega)
theorem mxC_n {mask : Int32} (e : Nat → Nat) {n : Nat} (hn : n ≤ 6) (hm : ∀ i, i < 32 → bt mask i = true → i < n) : mxC mask e 6 = mxE mask e n := by
  have h1 := mxE_C mask e 6 (Nat.le_refl _)
  have h2 := mxC_E mask e 6
  have h3 := mxE_top e hm (6 - n) (by omega)
  rw [show n + (6 - n) = 6 by omega] at h3
  omega
theorem mxC_le (mask : Int32) (e : Nat → Nat) : ∀ t, mxC mask e t ≤ 6
  | 0 => Nat.zero_le _
  | t + 1 => by
    have h := mxC_le mask e t
    have h2 := cpE_le mask e (e t) 6
    rw [mxC]
    by_cases q : bt mask t = true
    · rw [if_pos q]; omega
    · rw [if_neg q]; omega
theorem x_alike {N : Nat} (hN : 20000 ≤ N) {S : St} {V : Vt} {mask : Int32} {e : Nat → Nat} {c n : Nat} (hc : c < 25) (hn : n ≤ 6) (hm : ∀ i, i < 32 → bt mask i = true → i < n) (he : ∀ j, j < n → e j ≤ 25 ∧ (bt mask j = true → V.2.1 56 (j * 25 + c) = nI (e j))) : f_X3_mostAlike N S V 48 (nI c) mask = some (nI (mxE mask e n)) := by
  have inner : ∀ (K : Int32 → Int32 → Int32 → Int32 → Option Int32) (v3 : Int32) (l : Nat), l < 6 → f_X3_mostAlike_18 N S V 48 K N (nI c) mask v3 (nI l) (nI 0) (nI 0) = K (nI c) mask (mxI v3 (nI (if bt mask l = true then cpE mask e 6 (e l) else 0))) (nI (l + 1)) := by
    intro K v3 l hl
    obtain ⟨s, hs, k, en⟩ := lpN N (fun k (s : Int32) i => f_X3_mostAlike_18 N S V 48 K k (nI c) mask v3 (nI l) s i) 6 (fun t s => s = nI (if bt mask l = true then cpE mask e t (e l) else 0)) (by
      rintro t s ht rfl
      refine ⟨_, rfl, fun k => ?_⟩
      rw [f_X3_mostAlike_18, show (6 : Int32) = nI 6 from rfl, if_neg (show ¬ nI 6 ≤ nI t by rw [nI_L (by omega) (by omega)]; omega)]
      have no : ∀ x, f_X3_mostAlike_49 N S V 48 (f_X3_mostAlike_18 N S V 48 K k) (nI c) mask v3 (nI l) x (nI t) = f_X3_mostAlike_18 N S V 48 K k (nI c) mask v3 (nI l) x (nI (t + 1)) := fun x => by
        unfold f_X3_mostAlike_49 f_X3_mostAlike_50
        rw [if_pos rfl]
        unfold f_X3_mostAlike_87
        rw [nI_1, pl_bd]
      by_cases q : bt mask l = true
      · rw [if_pos (by rw [sIn (by omega)]; exact q), if_pos q, if_pos q, cpE]
        by_cases r : bt mask t = true
        · rw [if_pos (by rw [sIn (by omega)]; exact r)]
          have ln := hm l (by omega) q
          have tn := hm t (by omega) r
          have v1 : V.2.1 (48 + 8) (l * 25 + c) = nI (e l) := (he l ln).2 q
          have v2 : V.2.1 (48 + 8) (t * 25 + c) = nI (e t) := (he t tn).2 r
          have b1 := (he l ln).1
          have b2 := (he t tn).1
          unfold f_X3_mostAlike_50
          rw [if_neg (show ¬ (1 : Int32) = 0 by decide), show (25 : Int32) = nI 25 from rfl, pk_mul, pk_mul, nI_add, nI_add, pl_ck (by omega) (by omega), pl_ck (by omega) (by omega), nI_cl (by omega), nI_cl (by omega), v1, v2]
          unfold f_X3_mostAlike_87
          by_cases w : e t = e l
          · rw [if_pos (by rw [w]), if_pos ⟨r, w⟩, nI_1, pl_bd, nI_1, pl_bd]
          · rw [if_neg (by rw [nI_E (by omega) (by omega)]; exact fun h => w h.symm), if_neg (fun h => w h.2), nI_1, pl_bd]; rfl
        · rw [if_neg (by rw [sIn (by omega)]; exact r), if_neg (fun h => r h.1), no]; rfl
      · rw [if_neg (by rw [sIn (by omega)]; exact q), if_neg q, if_neg q, no]) (nI 0) (by omega) (by
        by_cases q : bt mask l = true
        · rw [if_pos q]; rfl
        · rw [if_neg q])
    have hs' : s = _ := hs
    have en' : f_X3_mostAlike_18 N S V 48 K N (nI c) mask v3 (nI l) (nI 0) (nI 0) = f_X3_mostAlike_18 N S V 48 K (k + 1) (nI c) mask v3 (nI l) s (nI 6) := en
    rw [en', hs', f_X3_mostAlike_18, if_pos (by decide), pl_bd, nI_1, pl_bd]
  obtain ⟨s, hs, k, en⟩ := lpN N (fun k (s : Int32) i => f_X3_mostAlike_5 N S V 48 k (nI c) mask s i) 6 (fun t s => s = nI (mxC mask e t)) (by
    rintro t s ht rfl
    refine ⟨_, rfl, fun k => ?_⟩
    have l1 := mxC_le mask e t
    have l2 : (if bt mask t = true then cpE mask e 6 (e t) else 0) ≤ 6 := by
      by_cases q : bt mask t = true
      · rw [if_pos q]; exact cpE_le mask e (e t) 6
      · rw [if_neg q]; omega
    have i1 := inner (f_X3_mostAlike_5 N S V 48 k) (nI (mxC mask e t)) t ht
    rw [f_X3_mostAlike_5, if_neg (show ¬ (6 : Int32) ≤ nI t by rw [lj 6, nI_L (by omega) (by omega)]; omega), show (0 : Int32) = nI 0 from rfl, i1, mx_nI (by omega) (by omega), mxC]) (nI 0) (by omega) rfl
  have en' : f_X3_mostAlike N S V 48 (nI c) mask = f_X3_mostAlike_5 N S V 48 (k + 1) (nI c) mask s (nI 6) := en
  have hs' : s = _ := hs
  rw [en', hs', f_X3_mostAlike_5, if_pos (by decide), mxC_n e hn hm]
/-- the lowest of the least -/
def bsE (a : Nat → Nat) : Nat → Nat
  | 0 => 0
  | t + 1 => if a t < a (bsE a t) then t else bsE a t
theorem bsE_lt (a : Nat → Nat) : ∀ t, bsE a (t + 1) ≤ t
  | 0 => by rw [bsE]; by_cases h : a 0 < a (bsE a 0) <;> simp only [h, if_true, if_false] <;> exact Nat.le_refl _
  | t + 1 => by
    have := bsE_lt a t
    rw [bsE]
    by_cases h : a (t + 1) < a (bsE a (t + 1))
    · rw [if_pos h]; omega
    · rw [if_neg h]; omega
section OPS
variable {N b0 : Nat}
theorem op_next (hN : 20000 ≤ N) : Op_next N b0 (Rel XL b0) := by
  intro S V M hR a1 a2
  rcases lies_c N a1 0 99 (by omega) (by omega) with ⟨k, -, hk, rfl, el⟩ | ⟨-, el⟩
  · rcases lies_c N a2 0 1 (by omega) (by omega) with ⟨w, -, hw, rfl, fl⟩ | ⟨-, fl⟩
    · obtain ⟨mask, V2, M2, h1, h2, h3, h4, h5⟩ := fitsB hN hR
      have hR2 := Rel_s hR (SX_ln h3) h4
      have h1' : f_X3_fitting N S V (0 + 48) (0 + 1) = some (mask, V2) := h1
      have x0 : f_X8_next N S V 0 (nI k) (nI w) = if mask = 0 then some ((-1 : Int32), V2) else obv (f_X3_learnPlaces N S V2 (0 + 48) (0 + 1) mask (nI k)) (fun V30 => f_X8_next_58 N S 0 N V30 (nI w) mask (0 : Int32) (1 : Int32)) := by
        unfold f_X8_next
        rw [within_lies, show (0 : Int32) = nI 0 from rfl, show (99 : Int32) = nI 99 from rfl, el, pl_ob1, if_neg (by decide), within_lies, show (1 : Int32) = nI 1 from rfl, fl, pl_ob1, if_neg (by decide), h1', pl_ob]
      have m0 : f_X9_next N M (nI k) (nI w) = if mask = 0 then some ((-1 : Int32), M2) else obv (f_X9_laysEnds N M2 (nI k)) (fun V27 => f_X9_next_47 N N V27 (nI w) mask (-1 : Int32) (1000000 : Int32) (0 : Int32)) := by
        unfold f_X9_next
        rw [show (0 : Int32) = nI 0 from rfl, show (99 : Int32) = nI 99 from rfl, el, pl_ob1, if_neg (by decide), show (1 : Int32) = nI 1 from rfl, fl, pl_ob1, if_neg (by decide), h2, pl_ob]
      by_cases hz : mask = 0
      · refine ⟨-1, V2, M2, by rw [x0, if_pos hz], by rw [m0, if_pos hz], hR2⟩
      · obtain ⟨e1, e2, n, hn, e3, e4⟩ := hR.2.2.1
        have e3' : M2.2.1 2 106 = nI n := by rw [h4.1 2 rfl]; exact e3
        obtain ⟨E, V3, M3, g1, g2, g3, g4, g5⟩ := endsB hN hR2 mask hk hn e3'
        have hm := h5 n hn e3
        have e3'' : M3.2.1 2 106 = nI n := by rw [g4.1 2 rfl]; exact e3'
        obtain ⟨a, ha⟩ : ∃ a : Nat → Nat, a = fun c => mxE mask (fun j => E j c) n := ⟨_, rfl⟩
        have a6 : ∀ c, a c ≤ 6 := fun c => by rw [ha]; have := mxE_le mask (fun j => E j c) n; exact Nat.le_trans this hn
        have xa : ∀ c, c < 25 → f_X3_mostAlike N S V3 (0 + 48) (nI c) mask = some (nI (a c)) := fun c hc => by
          rw [ha]
          exact x_alike hN hc hn hm (fun j hj => ⟨(g5 j hj c hc).1, fun q => (g5 j hj c hc).2.1 (by rw [sIn (by omega)]; exact q)⟩)
        have ma : ∀ f c, c < 25 → ∃ f', f_X9_mostAlike N (pA M3 20 f) mask (nI c) = some (nI (a c), pA M3 20 f') := fun f c hc => by
          rw [ha]
          obtain ⟨f', hf⟩ := m_alike (M := pA M3 20 f) (mask := mask) (e := fun j => E j c) hN hc hn (by rw [pA_n _ _ _ _ (by omega)]; exact e3'') (fun j hj => ⟨(g5 j hj c hc).1, by rw [pA_n _ _ _ _ (by omega)]; exact (g5 j hj c hc).2.2⟩)
          exact ⟨f', by rw [hf, pA_pA]⟩
        obtain ⟨s, hs, xe⟩ := lpE (fun k2 (s : Int32) i => f_X8_next_58 N S 0 k2 V3 (nI w) mask s i) 25 (fun t s => 1 ≤ t ∧ s = nI (bsE a t)) (by
          rintro t s ht ⟨h1t, rfl⟩
          refine ⟨_, ⟨by omega, rfl⟩, fun k2 => ?_⟩
          have bl : bsE a t < 25 := by
            have := bsE_lt a (t - 1)
            rw [show t - 1 + 1 = t by omega] at this
            omega
          have l1 := a6 t
          have l2 := a6 (bsE a t)
          rw [f_X8_next_58, if_neg (show ¬ (25 : Int32) ≤ nI t by rw [lj 25, nI_L (by omega) (by omega)]; omega), xa t ht, pl_ob1, xa _ bl, pl_ob1, bsE]
          unfold f_X8_next_92
          by_cases q : a t < a (bsE a t)
          · rw [if_neg (by rw [nI_L (by omega) (by omega)]; omega), if_pos q, nI_1, pl_bd]
          · rw [if_pos (by rw [nI_L (by omega) (by omega)]; omega), if_neg q, nI_1, pl_bd]) 24 1 (nI 0) rfl ⟨by omega, by rw [bsE, bsE]; by_cases h : a 0 < a 0 <;> simp only [h, if_true, if_false]⟩
        obtain ⟨-, rfl⟩ := hs
        obtain ⟨f0, mf0⟩ := ma (M3.2.1 20) 0 (by omega)
        obtain ⟨⟨f1, sb, sl⟩, ⟨-, p1, p2⟩, me⟩ := lpE (fun k2 (s : (Nat → Int32) × Int32 × Int32) i => f_X9_next_47 N k2 (pA M3 20 s.1) (nI w) mask s.2.1 s.2.2 i) 25 (fun t s => 1 ≤ t ∧ s.2.1 = nI (bsE a t) ∧ s.2.2 = nI (a (bsE a t))) (by
          rintro t ⟨f, sb, sl⟩ ht ⟨h1t, p1, p2⟩
          have p1' : sb = nI (bsE a t) := p1
          have p2' : sl = nI (a (bsE a t)) := p2
          subst p1' p2'
          obtain ⟨f', mf⟩ := ma f t ht
          have l1 := a6 t
          have l2 := a6 (bsE a t)
          refine ⟨(f', nI (bsE a (t + 1)), nI (a (bsE a (t + 1)))), ⟨by omega, rfl, rfl⟩, fun k2 => ?_⟩
          show f_X9_next_47 N (k2 + 1) (pA M3 20 f) (nI w) mask (nI (bsE a t)) (nI (a (bsE a t))) (nI t) = f_X9_next_47 N k2 (pA M3 20 f') (nI w) mask (nI (bsE a (t + 1))) (nI (a (bsE a (t + 1)))) (nI (t + 1))
          rw [f_X9_next_47, if_neg (show ¬ (25 : Int32) ≤ nI t by rw [lj 25, nI_L (by omega) (by omega)]; omega), mf, pl_ob, bsE]
          unfold f_X9_next_81
          by_cases q : a t < a (bsE a t)
          · rw [if_pos (by rw [nI_T (by omega) (by omega)]; exact q), if_pos q, nI_1, pl_bd]
          · rw [if_neg (by rw [nI_T (by omega) (by omega)]; exact q), if_neg q, nI_1, pl_bd]) 24 1 (f0, nI 0, nI (a 0)) rfl ⟨by omega, by
            show nI 0 = nI (bsE a 1)
            rw [bsE, bsE]; by_cases h : a 0 < a 0 <;> simp only [h, if_true, if_false], by
            show nI (a 0) = nI (a (bsE a 1))
            rw [bsE, bsE]; by_cases h : a 0 < a 0 <;> simp only [h, if_true, if_false]⟩
        have p1' : sb = nI (bsE a 25) := p1
        have p2' : sl = nI (a (bsE a 25)) := p2
        subst p1' p2'
        have bl : bsE a 25 < 25 := by
          have : bsE a 25 ≤ 24 := bsE_lt a 24
          omega
        refine ⟨if w = 0 then nI (bsE a 25) else nI (a (bsE a 25)), V3, pA M3 20 f1, ?_, ?_, ?_⟩
        · have g1' : f_X3_learnPlaces N S V2 (0 + 48) (0 + 1) mask (nI k) = some V3 := g1
          have xe' : f_X8_next_58 N S 0 N V3 (nI w) mask (0 : Int32) (1 : Int32) = f_X8_next_58 N S 0 (N - 25 + 1) V3 (nI w) mask (nI (bsE a 25)) (nI 25) := by
            have := xe (N - 25 + 1)
            rw [show N - 25 + 1 + 24 = N by omega] at this
            exact this
          rw [x0, if_neg hz, g1', pl_obv, xe', f_X8_next_58, if_pos (by decide)]
          rcases (by omega : w = 0 ∨ w = 1) with rfl | rfl
          · rw [if_pos rfl, if_pos (show nI 0 = 0 from rfl)]
          · rw [if_neg (show ¬ nI 1 = 0 by decide), if_neg (by omega), xa _ bl, pl_ob1]
        · have me' : f_X9_next_47 N (N - 1) (pA M3 20 f0) (nI w) mask (nI 0) (nI (a 0)) (nI 1) = f_X9_next_47 N (N - 26 + 1) (pA M3 20 f1) (nI w) mask (nI (bsE a 25)) (nI (a (bsE a 25))) (nI 25) := by
            have := me (N - 26 + 1)
            rw [show N - 26 + 1 + 24 = N - 1 by omega] at this
            exact this
          have l1 := a6 0
          have mf0' : f_X9_mostAlike N M3 mask (nI 0) = some (nI (a 0), pA M3 20 f0) := by
            have := mf0
            rw [pA_self] at this
            exact this
          have st : f_X9_next_47 N N M3 (nI w) mask (-1 : Int32) (1000000 : Int32) (0 : Int32) = f_X9_next_47 N (N - 1) (pA M3 20 f0) (nI w) mask (nI 0) (nI (a 0)) (nI 1) := by
            rw [show N = N - 1 + 1 by omega]
            rw [f_X9_next_47, if_neg (show ¬ (25 : Int32) ≤ 0 by decide)]
            rw [show N - 1 + 1 = N by omega, show (0 : Int32) = nI 0 from rfl, mf0', pl_ob, if_pos (show nI (a 0) < 1000000 by rw [show (1000000 : Int32) = nI 1000000 from rfl, nI_T (by omega) (by omega)]; omega)]
            unfold f_X9_next_81
            rw [nI_1, pl_bd]
          rw [m0, if_neg hz, g2, pl_obv, st, me', f_X9_next_47, if_pos (by decide)]
          rcases (by omega : w = 0 ∨ w = 1) with rfl | rfl
          · rw [if_pos rfl, if_pos (show nI 0 = 0 from rfl)]
          · rw [if_neg (show ¬ nI 1 = 0 by decide), if_neg (by omega)]
        · refine Rel_s hR2 g3 (SM_t g4 ⟨fun g hg => pA_n _ _ _ _ (fun e => by rw [e] at hg; exact absurd hg (by decide)), fun j hj => rfl⟩)
    · refine ⟨-1, V, M, ?_, ?_, hR⟩
      · unfold f_X8_next
        rw [within_lies, show (0 : Int32) = nI 0 from rfl, show (99 : Int32) = nI 99 from rfl, el, pl_ob1, if_neg (by decide), within_lies, show (1 : Int32) = nI 1 from rfl, fl]; rfl
      · unfold f_X9_next
        rw [show (0 : Int32) = nI 0 from rfl, show (99 : Int32) = nI 99 from rfl, el, pl_ob1, if_neg (by decide), show (1 : Int32) = nI 1 from rfl, fl]; rfl
  · refine ⟨-1, V, M, ?_, ?_, hR⟩
    · unfold f_X8_next
      rw [within_lies, show (0 : Int32) = nI 0 from rfl, show (99 : Int32) = nI 99 from rfl, el]; rfl
    · unfold f_X9_next
      rw [show (0 : Int32) = nI 0 from rfl, show (99 : Int32) = nI 99 from rfl, el]; rfl
end OPS
end
