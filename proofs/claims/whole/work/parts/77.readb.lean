section
/-! a text is read by both: what comes of it -/
def RdX (k : Nat) (V V' : Vt) : Prop := ∀ g, g < k → (g < 37 ∨ 42 ≤ g) → V'.1 g = V.1 g ∧ V'.2.1 g = V.2.1 g ∧ V'.2.2.2 g = V.2.2.2 g
def RdM (M M' : Vt) : Prop := M'.2.2 = M.2.2 ∧ (∀ g, ¬ (9 ≤ g ∧ g ≤ 11) → M'.2.1 g = M.2.1 g) ∧ ∀ j, ¬ (8 ≤ j ∧ j ≤ 10) → ¬ (13 ≤ j ∧ j ≤ 14) → ¬ (18 ≤ j ∧ j ≤ 21) → M'.1 0 j = M.1 0 j
theorem readB {N b0 : Nat} (hN : 20000 ≤ N) {S : St} {V M : Vt} (hS : ShX b0 S) (hT : Tp (V.1 0 15) (M.1 0 13) (V.2.1 36) (M.2.1 7)) (hW : Wq (M.2.1 6)) (mode : Nat) (hmode : mode = 0 ∨ mode = 1) :
    (∃ V' M' f, f ≤ 400 ∧ f_X5_readText N (adX b0) S V 37 36 (V.1 0 15) (nI (1 - mode)) = some (0, S, V') ∧ f_X9_readsAs N M (nI mode) = some (nI 0, M') ∧ V'.1 37 8 = nI f ∧ M'.1 0 14 = nI f ∧ M'.1 0 13 = nI 0 ∧ (∀ k, RdX k V V') ∧ RdM M M') ∨
    (∃ (S' : St) (V' M' : Vt) (n cnt sz : Nat) (st : Nat → Nat) (C cl T U : Nat → Int32), (n ≤ 400 ∧ 1 ≤ cnt ∧ cnt ≤ 12 ∧ sz ≤ 448) ∧ f_X5_readText N (adX b0) S V 37 36 (V.1 0 15) (nI (1 - mode)) = some (S.1 + 1, S', V') ∧ f_X9_readsAs N M (nI mode) = some (nI 1, M') ∧ V'.1 37 8 = -1 ∧ M'.1 0 14 = -1 ∧ M'.1 0 13 = nI 0 ∧ M'.1 0 18 = nI n ∧ RdX S.1 V V' ∧ RdM M M' ∧
      (S'.1 = S.1 + 3 ∧ Old S S' ∧ S'.2.2.2.2 = adX b0 (S.1 + 3) ∧ tshB S' S.1 = true ∧ S'.2.2.1 (S.1 + 1) = sz ∧ S'.2.2.1 (S.1 + 2) = 6 * cnt ∧ ∀ g, S.1 + 3 ≤ g → S'.2.2.1 g = S.2.2.1 g) ∧ (V'.1 S.1 2 = nI cnt ∧ (∀ i, i < sz → V'.2.1 (S.1 + 1) i = C i) ∧ ∀ i, i < 6 * cnt → V'.2.1 (S.1 + 2) i = cl i) ∧ (∀ t, t < n → M'.2.1 9 t = T t ∧ M'.2.1 10 t = U t) ∧ st 0 = 0 ∧ st cnt = n + 1 ∧ ∀ c, c < cnt → ∃ u, CLs mode C sz cl T U n c (st c) u ∧ st (c + 1) = u + 1) := by
  obtain ⟨L, hL, e15, e13, hb⟩ := hT
  have hbb : ∀ i, ∃ b : Nat, i < L → b < 256 ∧ V.2.1 36 i = nI b ∧ M.2.1 7 i = sb_b b := fun i => by
    by_cases h : i < L
    · obtain ⟨b, h1⟩ := hb i h; exact ⟨b, fun _ => h1⟩
    · exact ⟨0, fun q => absurd q h⟩
  obtain ⟨B, hB⟩ := Classical.skolem.mp hbb
  have l36 : S.2.2.1 36 = 400 := len_of hS.1 36 _ rfl
  obtain ⟨f, g, k0, hfg, ex⟩ := x_load hN (adX b0) l36 V hL (fun i hi => ⟨(hB i hi).1, (hB i hi).2.1⟩) (1 - mode) (by omega)
  obtain ⟨V2, hV2⟩ : ∃ V2, V2 = sF (sF (yS V f g) 37 4 (nI (1 - mode))) 37 5 (nI L) := ⟨_, rfl⟩
  rw [← hV2] at ex
  obtain ⟨M0, hM0⟩ : ∃ M0, M0 = sF (sF (sF M 0 10 (nI mode)) 0 8 (nI (9 + 6 * mode))) 0 9 (nI (18 + 3 * mode)) := ⟨_, rfl⟩
  have M02 : M0.2 = M.2 := by rw [hM0]; rfl
  have M0F : ∀ j, ¬ (8 ≤ j ∧ j ≤ 10) → M0.1 0 j = M.1 0 j := fun j hj => by rw [hM0, sF_o _ _ _ _ _ _ (by omega), sF_o _ _ _ _ _ _ (by omega), sF_o _ _ _ _ _ _ (by omega)]
  obtain ⟨n, Cd, Vl, Pl, hn, es, hPn, hPt, hA, hE1, hE2, hE3⟩ := m_splits (N := N) (M := M0) (B := B) (L := L) hN (by rw [M02]; exact hW) hL (fun i hi => ⟨(hB i hi).1, by rw [M02]; exact (hB i hi).2.2⟩)
  obtain ⟨M1, hM1⟩ : ∃ M1, M1 = sF (tS M0 n Cd Vl Pl) 0 13 (nI 0) := ⟨_, rfl⟩
  have M1F : ∀ j, j ≠ 13 → j ≠ 18 → M1.1 0 j = M0.1 0 j := fun j h1 h2 => by
    rw [hM1, sF_o _ _ _ _ _ _ (by omega)]
    show (if 0 = 0 ∧ j = 18 then nI n else M0.1 0 j) = _
    rw [if_neg (by omega)]
  have M1A : ∀ g, ¬ (9 ≤ g ∧ g ≤ 11) → M1.2.1 g = M.2.1 g := fun g hg => by
    rw [hM1, sF_2]
    show (if g = 9 then Cd else if g = 10 then Vl else if g = 11 then Pl else M0.2.1 g) = _
    rw [if_neg (by omega), if_neg (by omega), if_neg (by omega), M02]
  have M18 : M1.1 0 18 = nI n := by rw [hM1]; rfl
  have M13 : M1.1 0 13 = nI 0 := by rw [hM1]; rfl
  have M19 : M1.2.1 9 = Cd := by rw [hM1]; rfl
  have M110 : M1.2.1 10 = Vl := by rw [hM1]; rfl
  have M111 : M1.2.1 11 = Pl := by rw [hM1]; rfl
  have M1r : M1.2.2 = M.2.2 := by rw [hM1, sF_2]; show M0.2.2 = _; rw [M02]
  -- the reference's reading from its entry
  have em : f_X9_readsAs N M (nI mode) = ob (obv (f_X9_readOne N (qS M1 0 0 NB)) (fun Z => f_X9_reads_34 N N Z (nI (0 + 1)))) (fun r14 V16 => cb r14 (some (r14, V16))) := by
    have er : f_X9_reads N M0 = obv (f_X9_readOne N (qS M1 0 0 NB)) (fun Z => f_X9_reads_34 N N Z (nI (0 + 1))) := by
      unfold f_X9_reads
      rw [M0F 13 (by omega), e13, es, pl_obv, pl_bd, show (0 : Int32) = nI 0 from rfl, ← hM1]
      have q0 : sF (sF (sF M1 0 19 (nI 0)) 0 20 (nI 0)) 0 21 (-1) = qS M1 0 0 NB := by
        unfold qS
        refine Prod.ext ?_ rfl
        funext h j
        by_cases h0 : h = 0
        · subst h0
          by_cases c19 : j = 19
          · subst c19; rfl
          · by_cases c20 : j = 20
            · subst c20; rfl
            · by_cases c21 : j = 21
              · subst c21; rfl
              · rw [sF_o _ _ _ _ _ _ (by omega), sF_o _ _ _ _ _ _ (by omega), sF_o _ _ _ _ _ _ (by omega)]
                show _ = (if 0 = 0 ∧ j = 19 then nI 0 else if 0 = 0 ∧ j = 20 then nI 0 else if 0 = 0 ∧ j = 21 then NB else M1.1 0 j)
                rw [if_neg (by omega), if_neg (by omega), if_neg (by omega)]
        · rw [sF_o _ _ _ _ _ _ (by omega), sF_o _ _ _ _ _ _ (by omega), sF_o _ _ _ _ _ _ (by omega)]
          show _ = (if h = 0 ∧ j = 19 then nI 0 else if h = 0 ∧ j = 20 then nI 0 else if h = 0 ∧ j = 21 then NB else M1.1 h j)
          rw [if_neg (by omega), if_neg (by omega), if_neg (by omega)]
      simp only [pl_bd]
      rw [q0]; rfl
    have cbm : ∀ z : Option (Int32 × Vt), cb (nI mode) z = z := fun z => by rcases hmode with rfl | rfl <;> rfl
    unfold f_X9_readsAs
    rw [cbm, pl_bd]
    rcases hmode with rfl | rfl
    · rw [if_pos (show nI 0 = 0 from rfl)]
      unfold f_X9_readsAs_17 f_X9_readsAs_32
      rw [pl_bd, if_pos (show nI 0 = 0 from rfl), pl_bd, ← er, hM0]; rfl
    · rw [if_neg (show ¬ nI 1 = 0 by decide)]
      unfold f_X9_readsAs_17 f_X9_readsAs_32
      rw [pl_bd, if_neg (show ¬ nI 1 = 0 by decide), pl_bd, ← er, hM0]; rfl
  have v5 : V2.1 37 5 = nI L := by rw [hV2]; rfl
  have v4 : V2.1 37 4 = nI (1 - mode) := by rw [hV2]; rfl
  have HH := p_env (N := N) hN S (V := V2) (M := M1) (B := B) (L := L) (n := n) (mode := mode) hL hn hmode v4 v5 (fun i hi => ⟨(hB i hi).1, by rw [hV2]; exact (hfg i hi).1, by rw [hV2]; exact (hfg i hi).2⟩) ⟨by rw [M1F 8 (by omega) (by omega), hM0]; rfl, by rw [M1F 9 (by omega) (by omega), hM0]; rfl, by rw [M1F 10 (by omega) (by omega), hM0]; rfl⟩ hPn hPt (fun t ht => by rw [M19, M110, M111]; exact hA t ht) (by rw [M19, M110, M111]; exact ⟨hE1, hE2, hE3⟩)
  have hBy : BY (cS V2 0 (V.2.1 41)) B L := ⟨hL, v5, fun i hi => ⟨(hB i hi).1, by rw [hV2]; exact (hfg i hi).1, by rw [hV2]; exact (hfg i hi).2⟩⟩
  have mv := x_move hN S hBy k0 0 0 0 (-1) (V.2.1 40) (Nat.zero_le L)
  have mv' : f_X5_move N S (rS (cS V2 0 (V.2.1 41)) k0 0 0 0 (-1) (V.2.1 40)) 37 = some (rS (cS V2 0 (V.2.1 41)) (Pq B L 0) (EX B L (Pq B L 0)) 0 0 (-1) (V.2.1 40)) := mv
  rw [mv', pl_obv] at ex
  have T := p_text HH v5 hL hPn hPt M18 (adX b0) 36 (-1) 12 0 0 0 0 (V.2.1 40) (V.2.1 41) (fun _ => 0) (by omega) (Nat.zero_le n) (by omega) (by omega) rfl rfl (fun c hc => absurd hc (Nat.not_lt_zero c)) N N (by omega) (by omega) (by omega)
  -- what stays
  have rdm : ∀ t lv b, RdM M (sF (qS M1 t lv b) 0 14 b) := by
    intro t lv b
    refine ⟨M1r, fun g hg => M1A g hg, fun j h1 h2 h3 => ?_⟩
    rw [sF_o _ _ _ _ _ _ (by omega)]
    show (if 0 = 0 ∧ j = 19 then nI t else if 0 = 0 ∧ j = 20 then nI lv else if 0 = 0 ∧ j = 21 then b else M1.1 0 j) = _
    rw [if_neg (by omega), if_neg (by omega), if_neg (by omega), M1F j (by omega) (by omega), M0F j (by omega)]
  have rdx : ∀ cnt cl s e pt sz fl C k, RdX k V (rS (cS V2 cnt cl) s e pt sz fl C) := by
    intro cnt cl s e pt sz fl C k g' hk hg
    refine ⟨funext fun j => ?_, ?_, by rw [hV2]; rfl⟩
    · show (if g' = 37 ∧ j = 6 then _ else if g' = 37 ∧ j = 7 then _ else if g' = 37 ∧ j = 8 then _ else if g' = 37 ∧ j = 9 then _ else if g' = 37 ∧ j = 10 then _ else if g' = 37 ∧ j = 11 then _ else V2.1 g' j) = _
      rw [if_neg (by omega), if_neg (by omega), if_neg (by omega), if_neg (by omega), if_neg (by omega), if_neg (by omega), hV2, sF_o _ _ _ _ _ _ (by omega), sF_o _ _ _ _ _ _ (by omega)]; rfl
    · show (if g' = 40 then C else if g' = 41 then cl else V2.2.1 g') = _
      rw [if_neg (by omega), if_neg (by omega), hV2]
      show (if g' = 38 then f else if g' = 39 then g else V.2.1 g') = _
      rw [if_neg (by omega), if_neg (by omega)]
  rw [e15]
  rcases T with ⟨pt, sz, C, cl, cnt, st, ⟨c1, c12, s448, -⟩, rc, rm, st0, stn, hcl⟩ | ⟨ff, s, e, pt, sz, C, cnt, cl, t2, lv2, hf, rc, rm⟩
  · right
    have h65 : (rS (cS V2 cnt cl) (Pq B L n) (EX B L (Pq B L n)) pt sz (-1) C).1 37 6 = (rS (cS V2 cnt cl) (Pq B L n) (EX B L (Pq B L n)) pt sz (-1) C).1 37 5 := by
      rw [rS_6, rS_5, hPn]; exact v5.symm
    obtain ⟨S', V', eN, n1, o1, z1, t1, l1, l2, ov, vc, va1, va2⟩ := x_newText (N := N) hS (rS (cS V2 cnt cl) (Pq B L n) (EX B L (Pq B L n)) pt sz (-1) C) (fun _ _ => none) 0 h65 rfl rfl s448 c12
    have h64 := hS.2.2
    refine ⟨S', V', sF (qS M1 n pt NB) 0 14 NB, n, cnt, sz, st, C, cl, fun i => nI (tcode (tkn B (Pq B L i) (EX B L (Pq B L i) - Pq B L i))), fun i => nI (tvl B L (Pq B L i) (EX B L (Pq B L i))), ⟨by omega, c1, c12, s448⟩, ?_, ?_, ?_, rfl, ?_, ?_, ?_, rdm n pt NB, ⟨n1, o1, z1, t1, l1, l2⟩, ⟨vc, va1, va2⟩, fun t ht => ?_, st0, stn, hcl⟩
    · rw [ex, rc]; exact eN
    · rw [em, rm, pl_ob]; rfl
    · rw [(ov 37 (by omega)).1]; rfl
    · rw [sF_o _ _ _ _ _ _ (by omega)]; exact M13
    · rw [sF_o _ _ _ _ _ _ (by omega)]; exact M18
    · intro g' hk hg
      obtain ⟨a1, a2, a3⟩ := ov g' hk
      obtain ⟨b1, b2, b3⟩ := rdx cnt cl (Pq B L n) (EX B L (Pq B L n)) pt sz (-1) C (g' + 1) g' (by omega) hg
      exact ⟨a1.trans b1, a2.trans b2, a3.trans b3⟩
    · have := hA t ht
      refine ⟨?_, ?_⟩
      · show M1.2.1 9 t = _; rw [M19]; exact this.1
      · show M1.2.1 10 t = _; rw [M110]; exact this.2.1
  · left
    refine ⟨_, _, ff, hf, by rw [ex, rc], by rw [em, rm, pl_ob]; rfl, rfl, by rw [sF_e, upd_e], ?_, fun k => rdx cnt cl s e pt sz (nI ff) C k, rdm t2 lv2 (nI ff)⟩
    rw [sF_o _ _ _ _ _ _ (by omega)]; exact M13
end
