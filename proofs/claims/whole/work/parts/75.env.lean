section
/-! a text from the tape: both -/
theorem i32_nI (x : Int32) : ∃ k : Nat, x = nI k := ⟨x.toBitVec.toNat, by
  apply Int32.toBitVec_inj.mp
  show x.toBitVec = BitVec.ofNat 32 x.toBitVec.toNat
  rw [BitVec.ofNat_toNat, BitVec.setWidth_eq]⟩
def yS (V : Vt) (f g : Nat → Int32) : Vt := (V.1, fun h => if h = 38 then f else if h = 39 then g else V.2.1 h, V.2.2)
theorem yS_38 (V : Vt) (f g : Nat → Int32) (k : Nat) (x : Int32) : sA (yS V f g) 38 k x = yS V (upd f k x) g := by
  unfold sA yS
  refine Prod.ext rfl (Prod.ext ?_ rfl)
  funext h j
  simp only [up2]
  by_cases c : h = 38
  · subst c
    by_cases d : j = k
    · simp [d, upd]
    · simp [d, upd]
  · simp only [c, false_and, if_false]
theorem yS_39 (V : Vt) (f g : Nat → Int32) (k : Nat) (x : Int32) : sA (yS V f g) 39 k x = yS V f (upd g k x) := by
  unfold sA yS
  refine Prod.ext rfl (Prod.ext ?_ rfl)
  funext h j
  simp only [up2]
  by_cases c : h = 39
  · subst c
    by_cases d : j = k
    · simp [d, upd]
    · simp [d, upd]
  · simp only [c, false_and, if_false]
theorem yS_id (V : Vt) : yS V (V.2.1 38) (V.2.1 39) = V := by
  unfold yS
  refine Prod.ext rfl (Prod.ext ?_ rfl)
  funext h
  show (if h = 38 then V.2.1 38 else if h = 39 then V.2.1 39 else V.2.1 h) = V.2.1 h
  by_cases c : h = 38
  · rw [if_pos c, c]
  · rw [if_neg c]
    by_cases d : h = 39
    · rw [if_pos d, d]
    · rw [if_neg d]
theorem x_kindB (N : Nat) {b : Nat} (hb : b < 256) : f_X5_kindOfByte N (nI b) = some (nI (kdB b)) := by
  unfold f_X5_kindOfByte f_X5_kindOfByte_22 kdB
  by_cases h1 : b = 32
  · rw [if_pos (by rw [h1]; rfl), if_pos h1]; rfl
  · rw [if_neg (by rw [lj 32, nI_E (by omega) (by omega)]; exact h1), if_neg h1]
    by_cases h2 : 97 ≤ b ∧ b ≤ 122
    · rw [if_neg (by rw [lj 97, nI_T (by omega) (by omega)]; omega), if_neg (by rw [lj 122, nI_T (by omega) (by omega)]; omega), if_pos h2]; rfl
    · rw [if_neg h2]
      have d : (if nI b < (48 : Int32) then some (3 : Int32) else if (57 : Int32) < nI b then some (3 : Int32) else some (2 : Int32)) = some (nI (if 48 ≤ b ∧ b ≤ 57 then 2 else 3)) := by
        by_cases h3 : 48 ≤ b ∧ b ≤ 57
        · rw [if_neg (by rw [lj 48, nI_T (by omega) (by omega)]; omega), if_neg (by rw [lj 57, nI_T (by omega) (by omega)]; omega), if_pos h3]; rfl
        · rw [if_neg h3]
          by_cases h4 : b < 48
          · rw [if_pos (by rw [lj 48, nI_T (by omega) (by omega)]; omega)]; rfl
          · rw [if_neg (by rw [lj 48, nI_T (by omega) (by omega)]; omega), if_pos (by rw [lj 57, nI_T (by omega) (by omega)]; omega)]; rfl
      by_cases h5 : b < 97
      · rw [if_pos (by rw [lj 97, nI_T (by omega) (by omega)]; omega), d]
      · rw [if_neg (by rw [lj 97, nI_T (by omega) (by omega)]; omega), if_pos (by rw [lj 122, nI_T (by omega) (by omega)]; omega), d]
/-- the tape into the reader -/
theorem x_load {N : Nat} (hN : 20000 ≤ N) (ad : Nat → Nat) {S : St} (hS : S.2.2.1 36 = 400) (V : Vt) {B : Nat → Nat} {L : Nat} (hL : L ≤ 400) (hB : ∀ i, i < L → B i < 256 ∧ V.2.1 36 i = nI (B i)) (law : Nat) (hlaw : law = 0 ∨ law = 1) :
    ∃ f g k0, (∀ i, i < L → f i = nI (B i) ∧ g i = nI (kdB (B i))) ∧ f_X5_readText N ad S V 37 36 (nI L) (nI law) = obv (f_X5_move N S (rS (cS (sF (sF (yS V f g) 37 4 (nI law)) 37 5 (nI L)) 0 (V.2.1 41)) k0 0 0 0 (-1) (V.2.1 40)) 37) (fun V66 => f_X5_readText_82 N ad S 37 36 N V66 (nI 0)) := by
  obtain ⟨fg, hfg, m, em⟩ := lpN N (fun m (fg : (Nat → Int32) × (Nat → Int32)) i => f_X5_readText_3 N ad S 37 36 m (yS V fg.1 fg.2) (nI L) (nI law) i) L (fun i fg => ∀ j, j < i → fg.1 j = nI (B j) ∧ fg.2 j = nI (kdB (B j))) (by
    intro i fg hi hp
    obtain ⟨bi, ei⟩ := hB i hi
    refine ⟨(upd fg.1 i (nI (B i)), upd fg.2 i (nI (kdB (B i)))), fun j hj => ?_, fun m => ?_⟩
    · by_cases hji : j = i
      · subst hji
        exact ⟨upd_e _ _ _, upd_e _ _ _⟩
      · exact ⟨(upd_n _ _ _ _ hji).trans (hp j (by omega)).1, (upd_n _ _ _ _ hji).trans (hp j (by omega)).2⟩
    · rw [f_X5_readText_3, if_neg (by rw [nI_L (by omega) (by omega)]; omega), hS, pl_ck (by omega) (by omega), pl_ck (by omega) (by omega), nI_cl (by omega)]
      have t1 : (yS V fg.1 fg.2).2.1 36 i = nI (B i) := ei
      have a1 : sA (yS V fg.1 fg.2) (37 + 1) i (nI (B i)) = yS V (upd fg.1 i (nI (B i))) fg.2 := yS_38 _ _ _ _ _
      have t2 : (yS V (upd fg.1 i (nI (B i))) fg.2).2.1 36 i = nI (B i) := ei
      have a2 : sA (yS V (upd fg.1 i (nI (B i))) fg.2) (37 + 2) i (nI (kdB (B i))) = yS V (upd fg.1 i (nI (B i))) (upd fg.2 i (nI (kdB (B i)))) := yS_39 _ _ _ _ _
      rw [t1, a1, pl_bd, pl_ck (by omega) (by omega), t2, x_kindB N bi, pl_ob1, pl_ck (by omega) (by omega), a2, pl_bd, nI_1, pl_bd]) (V.2.1 38, V.2.1 39) (by omega) (fun j hj => absurd hj (Nat.not_lt_zero j))
  obtain ⟨k0, hk0⟩ := i32_nI (V.1 37 6)
  refine ⟨fg.1, fg.2, k0, hfg, ?_⟩
  unfold f_X5_readText
  have e0 : f_X5_readText_3 N ad S 37 36 N V (nI L) (nI law) 0 = f_X5_readText_3 N ad S 37 36 N (yS V (V.2.1 38) (V.2.1 39)) (nI L) (nI law) (nI 0) := by rw [yS_id]; rfl
  have em' : f_X5_readText_3 N ad S 37 36 N (yS V (V.2.1 38) (V.2.1 39)) (nI L) (nI law) (nI 0) = f_X5_readText_3 N ad S 37 36 (m + 1) (yS V fg.1 fg.2) (nI L) (nI law) (nI L) := em
  rw [e0, em', f_X5_readText_3, if_pos (by rw [nI_L (by omega) (by omega)]; omega)]
  have cbl : ∀ z : Option (Nat × St × Vt), cb (nI law) z = z := fun z => by rcases hlaw with rfl | rfl <;> rfl
  rw [cbl]
  have fin : sF (sF (sF (sF (sF (sF (sF (yS V fg.1 fg.2) 37 4 (nI law)) 37 5 (nI L)) 37 7 0) 37 8 (-1)) 37 9 0) 37 10 0) 37 11 0 = rS (cS (sF (sF (yS V fg.1 fg.2) 37 4 (nI law)) 37 5 (nI L)) 0 (V.2.1 41)) k0 0 0 0 (-1) (V.2.1 40) := by
    refine Prod.ext ?_ (Prod.ext ?_ rfl)
    · funext h j
      by_cases h37 : h = 37
      · subst h37
        by_cases c6 : j = 6
        · subst c6; exact hk0
        · by_cases c7 : j = 7
          · subst c7; rfl
          · by_cases c8 : j = 8
            · subst c8; rfl
            · by_cases c9 : j = 9
              · subst c9; rfl
              · by_cases c10 : j = 10
                · subst c10; rfl
                · by_cases c11 : j = 11
                  · subst c11; rfl
                  · rw [sF_o _ _ _ _ _ _ (by omega), sF_o _ _ _ _ _ _ (by omega), sF_o _ _ _ _ _ _ (by omega), sF_o _ _ _ _ _ _ (by omega), sF_o _ _ _ _ _ _ (by omega)]
                    show _ = (if 37 = 37 ∧ j = 6 then nI k0 else if 37 = 37 ∧ j = 7 then nI 0 else if 37 = 37 ∧ j = 8 then -1 else if 37 = 37 ∧ j = 9 then nI 0 else if 37 = 37 ∧ j = 10 then nI 0 else if 37 = 37 ∧ j = 11 then nI 0 else _)
                    rw [if_neg (by omega), if_neg (by omega), if_neg (by omega), if_neg (by omega), if_neg (by omega), if_neg (by omega)]
      · rw [sF_o _ _ _ _ _ _ (by omega), sF_o _ _ _ _ _ _ (by omega), sF_o _ _ _ _ _ _ (by omega), sF_o _ _ _ _ _ _ (by omega), sF_o _ _ _ _ _ _ (by omega)]
        show _ = (if h = 37 ∧ j = 6 then nI k0 else if h = 37 ∧ j = 7 then nI 0 else if h = 37 ∧ j = 8 then -1 else if h = 37 ∧ j = 9 then nI 0 else if h = 37 ∧ j = 10 then nI 0 else if h = 37 ∧ j = 11 then nI 0 else _)
        rw [if_neg (by omega), if_neg (by omega), if_neg (by omega), if_neg (by omega), if_neg (by omega), if_neg (by omega)]
    · funext h
      by_cases c0 : h = 40
      · subst c0; rfl
      · by_cases c1 : h = 41
        · subst c1; rfl
        · show (yS V fg.1 fg.2).2.1 h = (if h = 40 then V.2.1 40 else if h = 41 then V.2.1 41 else (yS V fg.1 fg.2).2.1 h)
          rw [if_neg c0, if_neg c1]
  simp only [pl_bd]
  rw [fin]
  rfl
theorem tvl_lt (B : Nat → Nat) {L s : Nat} (hL : L ≤ 400) : tvl B L s (EX B L s) < 2147483648 := by
  unfold tvl
  by_cases c : s < L ∧ kdB (B s) = 2
  · rw [if_pos c]
    obtain ⟨a, b, d, e⟩ := EX_p B hL c.1
    have := (sat_12 B s (EX B L s - s) (fun i hi => (kd_2 _).mp ((d (s + i) (by omega) (by omega)).trans c.2))).2
    omega
  · rw [if_neg c]; omega
/-- both readers over the same tokens -/
theorem p_env {N : Nat} (hN : 20000 ≤ N) (S : St) {V M : Vt} {B : Nat → Nat} {L n mode : Nat} (hL : L ≤ 400) (hn : n ≤ L) (hmode : mode = 0 ∨ mode = 1) (h4 : V.1 37 4 = nI (1 - mode)) (h5 : V.1 37 5 = nI L) (hB : ∀ i, i < L → B i < 256 ∧ V.2.1 38 i = nI (B i) ∧ V.2.1 39 i = nI (kdB (B i))) (hM : M.1 0 8 = nI (9 + 6 * mode) ∧ M.1 0 9 = nI (18 + 3 * mode) ∧ M.1 0 10 = nI mode) (hPn : Pq B L n = L) (hPt : ∀ t, t < n → Pq B L t < L)
    (hA : ∀ t, t < n → M.2.1 9 t = nI (tcode (tkn B (Pq B L t) (EX B L (Pq B L t) - Pq B L t))) ∧ M.2.1 10 t = nI (tvl B L (Pq B L t) (EX B L (Pq B L t))) ∧ M.2.1 11 t = nI (Pq B L t)) (hE : M.2.1 9 n = nI 0 ∧ M.2.1 10 n = nI 0 ∧ M.2.1 11 n = nI L) :
    PEs N S V M n mode (fun t => tcode (tkn B (Pq B L t) (EX B L (Pq B L t) - Pq B L t))) (fun t => tvl B L (Pq B L t) (EX B L (Pq B L t))) (Pq B L) (fun t => EX B L (Pq B L t)) := by
  intro cnt cl
  have hBy : BY (cS V cnt cl) B L := ⟨hL, h5, hB⟩
  have tcn : tcode (tkn B (Pq B L n) (EX B L (Pq B L n) - Pq B L n)) = 0 := by
    have := (tc_at B hL (fun i hi => (hB i hi).1) (Pq_le B hL n).2.1).2
    rw [if_neg (by omega)] at this; exact this
  have tvn : tvl B L (Pq B L n) (EX B L (Pq B L n)) = 0 := if_neg (fun q => by omega)
  have exle : ∀ t, EX B L (Pq B L t) ≤ L := fun t => Eq_le B hL (t + 1)
  have lePE : ∀ t, Pq B L t ≤ EX B L (Pq B L t) := by
    intro t
    by_cases h : Pq B L t < L
    · have := (EX_p B hL h).1; omega
    · unfold EX; rw [if_neg h]; exact (Pq_le B hL t).2.1
  refine ⟨⟨by omega, hmode, hN⟩, ⟨h4, L, hn, hL, h5⟩, hM, ⟨tcn, fun t ht => ?_⟩, fun t ht pt sz fl C ls hls => ?_, fun t ht pt sz fl C m hm => ?_, fun t ht pt sz fl C => ?_⟩
  · have p2 := (Pq_le B hL t).2.1
    have tc := (tc_at B hL (fun i hi => (hB i hi).1) p2).2
    refine ⟨?_, tvl_lt B hL, by omega, ?_⟩
    · show tcode _ < 400
      rw [tc]
      by_cases c : Pq B L t < L
      · rw [if_pos c]
        have b256 := (hB _ c).1
        have f29 := fw_29 (tkn B (Pq B L t) (EX B L (Pq B L t) - Pq B L t))
        split
        · omega
        · split <;> omega
      · rw [if_neg c]; omega
    · by_cases c : t < n
      · exact hA t c
      · have : t = n := by omega
        subst this
        refine ⟨?_, ?_, ?_⟩
        · show _ = nI (tcode _); rw [tcn]; exact hE.1
        · show _ = nI (tvl _ _ _ _); rw [tvn]; exact hE.2.1
        · rw [hPn]; exact hE.2.2
  · have p2 := (Pq_le B hL t).2.1
    have e1 := exle t
    have e2 := lePE t
    refine x_word hN S _ hls (B := B) (s := Pq B L t) (sg := EX B L (Pq B L t) - Pq B L t) (by omega) rfl ?_ (fun i hi => ⟨(hB _ (by omega)).2.1, (hB _ (by omega)).1⟩) (tc_at B hL (fun i hi => (hB i hi).1) p2).1
    rw [rS_7, show Pq B L t + (EX B L (Pq B L t) - Pq B L t) = EX B L (Pq B L t) by omega]
  · exact x_number hN S hBy (Pq_le B hL t).2.1 pt sz fl C m hm
  · exact x_move hN S hBy (Pq B L t) (EX B L (Pq B L t)) pt sz fl C (exle t)
end
