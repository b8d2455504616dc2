section
/-! which word a token is -/
def ALLW : List (List Nat) := [[108, 101, 97, 100, 115], [116, 97, 107, 101, 115], [98, 105, 116, 101, 115], [98, 97, 114, 115], [105, 102], [111, 114], [97, 110, 100], [110, 111, 116], [99, 101, 108, 108], [114, 111, 119], [99, 111, 108, 117, 109, 110], [99, 108, 101, 114, 107], [107, 101, 101, 110], [109, 111, 111, 100], [101, 110, 116, 114, 121], [111, 102, 102], [97, 99, 114, 111, 115, 115], [100, 97, 121], [100, 111, 110, 101], [108, 97, 116, 101, 115, 116], [104, 97, 110, 100], [116, 97, 107, 101], [98, 121], [115, 104, 105, 102, 116], [116, 111], [111, 102], [102, 101, 110, 99, 101], [112, 97, 115, 115], [116, 105, 109, 101, 115]]
def wps : List (List (List Nat × Nat)) := [[([108, 101, 97, 100, 115], 1), ([116, 97, 107, 101, 115], 2), ([98, 105, 116, 101, 115], 3), ([98, 97, 114, 115], 4)], [([91], 191)], [([93], 193)], [([99, 101, 108, 108], 9), ([114, 111, 119], 10), ([99, 111, 108, 117, 109, 110], 11), ([101, 110, 116, 114, 121], 15), ([111, 102, 102], 16), ([97, 99, 114, 111, 115, 115], 17), ([99, 108, 101, 114, 107], 12), ([107, 101, 101, 110], 13), ([100, 97, 121], 18), ([109, 111, 111, 100], 14)], [([100, 97, 121], 18), ([100, 111, 110, 101], 19), ([108, 97, 116, 101, 115, 116], 20), ([101, 110, 116, 114, 121], 15), ([111, 102, 102], 16), ([97, 99, 114, 111, 115, 115], 17), ([104, 97, 110, 100], 21)], [([42], 142), ([47], 147), ([37], 137)], [([43], 143), ([45], 145)], [([105, 102], 5)], [([110, 111, 116], 8)], [([40], 140)], [([41], 141)], [([60], 160), ([62], 162), ([61], 161)], [([97, 110, 100], 7)], [([111, 114], 6)], [([116, 97, 107, 101], 22), ([115, 104, 105, 102, 116], 24), ([102, 101, 110, 99, 101], 27), ([112, 97, 115, 115], 28)], [([98, 121], 23)], [([116, 111], 25)], [([111, 102], 26)], [([116, 105, 109, 101, 115], 29)], [([59], 159)]]
def fw (tk : List Nat) : List (List Nat) → Nat → Nat
  | [], _ => 0
  | w :: r, j => if tk = w then j else fw tk r (j + 1)
def kdB (b : Nat) : Nat := if b = 32 then 0 else if 97 ≤ b ∧ b ≤ 122 then 1 else if 48 ≤ b ∧ b ≤ 57 then 2 else 3
def tcode (tk : List Nat) : Nat := match tk with
  | [] => 0
  | b :: _ => if kdB b = 1 then fw tk ALLW 1 else if kdB b = 2 then 50 else 100 + b
def vtk (tk : List Nat) : Prop := tk = [] ∨ ∃ b r, tk = b :: r ∧ b < 256 ∧ (kdB b = 3 → r = [])
theorem fw_p (tk : List Nat) : ∀ (L : List (List Nat)) (j : Nat), fw tk L j = 0 ∨ (j ≤ fw tk L j ∧ fw tk L j < j + L.length ∧ L.getD (fw tk L j - j) [] = tk) := by
  intro L
  induction L with
  | nil => intro j; exact Or.inl rfl
  | cons w r ih =>
    intro j
    by_cases h : tk = w
    · have e : fw tk (w :: r) j = j := if_pos h
      rw [e]
      exact Or.inr ⟨Nat.le_refl j, by simp, by rw [Nat.sub_self]; exact h.symm⟩
    · have e : fw tk (w :: r) j = fw tk r (j + 1) := if_neg h
      rw [e]
      rcases ih (j + 1) with h1 | ⟨h1, h2, h3⟩
      · exact Or.inl h1
      · refine Or.inr ⟨by omega, by simp only [List.length_cons]; omega, ?_⟩
        rw [show fw tk r (j + 1) - j = fw tk r (j + 1) - (j + 1) + 1 by omega]
        exact h3
theorem wps_ok : ∀ ls, ls < 20 → (wps.getD ls []).all (fun p => decide (tcode p.1 = p.2) && decide (p.1 ≠ []) && p.1.all (fun c => decide (c ≠ 32)) && (decide (1 ≤ p.2 ∧ p.2 ≤ 29 ∧ ALLW.getD (p.2 - 1) [] = p.1) || decide (p.1.length = 1 ∧ p.2 = 100 + p.1.getD 0 0 ∧ kdB (p.1.getD 0 0) = 3))) = true := by decide +kernel
theorem wps_tab : ∀ ls, ls < 20 → (wps.getD ls []).map (fun p => p.2) = wtab.getD ls [] := by decide +kernel
theorem wps_join : ∀ ls, ls < 20 → joinW ((wps.getD ls []).map (fun p => p.1)) = (List.range (kLen.getD ls 0)).map (fun j => chN ls (0 + j)) := by decide +kernel
theorem wps_ne : ∀ ls, ls < 20 → (wps.getD ls []).map (fun p => p.1) ≠ [] := by decide +kernel
theorem tc_inj {tk : List Nat} (hv : vtk tk) {p : List Nat × Nat} (h : (decide (tcode p.1 = p.2) && decide (p.1 ≠ []) && p.1.all (fun c => decide (c ≠ 32)) && (decide (1 ≤ p.2 ∧ p.2 ≤ 29 ∧ ALLW.getD (p.2 - 1) [] = p.1) || decide (p.1.length = 1 ∧ p.2 = 100 + p.1.getD 0 0 ∧ kdB (p.1.getD 0 0) = 3))) = true) : tk = p.1 ↔ p.2 = tcode tk := by
  simp only [Bool.and_eq_true, Bool.or_eq_true, decide_eq_true_eq] at h
  obtain ⟨⟨⟨h1, h2⟩, -⟩, h3⟩ := h
  constructor
  · intro e; rw [e, h1]
  · intro e
    rcases hv with rfl | ⟨b, r, rfl, hb, h3'⟩
    · have : tcode [] = 0 := rfl
      rw [this] at e
      rcases h3 with ⟨a, -⟩ | ⟨-, a, -⟩
      · omega
      · omega
    · have et : tcode (b :: r) = if kdB b = 1 then fw (b :: r) ALLW 1 else if kdB b = 2 then 50 else 100 + b := rfl
      rw [et] at e
      have l29 : ALLW.length = 29 := rfl
      by_cases k1 : kdB b = 1
      · rw [if_pos k1] at e
        rcases fw_p (b :: r) ALLW 1 with f0 | ⟨f1, f2, f3⟩
        · rw [f0] at e
          rcases h3 with ⟨a, -⟩ | ⟨-, a, -⟩ <;> omega
        · rw [← e] at f1 f2 f3
          rcases h3 with ⟨a1, a2, a3⟩ | ⟨-, a, -⟩
          · rw [← f3, a3]
          · omega
      · rw [if_neg k1] at e
        by_cases k2 : kdB b = 2
        · rw [if_pos k2] at e
          rcases h3 with ⟨a1, a2, a3⟩ | ⟨-, a, -⟩ <;> omega
        · rw [if_neg k2] at e
          rcases h3 with ⟨a1, a2, a3⟩ | ⟨a1, a2, a3⟩
          · omega
          · have k3 : kdB b = 3 := by
              have e0 : b = p.1.getD 0 0 := by omega
              rw [e0]; exact a3
            rw [h3' k3]
            obtain ⟨x, hx⟩ := List.length_eq_one_iff.mp a1
            rw [hx] at a2 ⊢
            have : [x].getD 0 0 = x := rfl
            rw [this] at a2
            congr 1; omega
theorem wfind_wix {tk : List Nat} {c : Nat} : ∀ (l : List (List Nat × Nat)) (j : Nat), (∀ p, p ∈ l → (tk = p.1 ↔ p.2 = c)) → wfind tk (l.map (fun p => p.1)) j = wix (l.map (fun p => p.2)) c j := by
  intro l
  induction l with
  | nil => intro j _; rfl
  | cons p r ih =>
    intro j h
    have h0 := h p List.mem_cons_self
    show (if tk = p.1 then nI j else wfind tk (r.map (fun p => p.1)) (j + 1)) = (if p.2 = c then nI j else wix (r.map (fun p => p.2)) c (j + 1))
    rw [ih (j + 1) (fun q hq => h q (List.mem_cons_of_mem _ hq))]
    by_cases e : tk = p.1
    · rw [if_pos e, if_pos (h0.mp e)]
    · rw [if_neg e, if_neg (fun q => e (h0.mpr q))]
/-- the class finds a word -/
theorem x_word {N : Nat} (hN : 20000 ≤ N) (S : St) (V : Vt) {B : Nat → Nat} {s sg ls : Nat} (hls : ls < 20) (hs : s + sg ≤ 400) (h6 : V.1 37 6 = nI s) (h7 : V.1 37 7 = nI (s + sg)) (hB : ∀ i, i < sg → V.2.1 38 (s + i) = nI (B (s + i)) ∧ B (s + i) < 256) (hv : vtk (tkn B s sg)) : f_X5_wordIn N S V 37 ls = some (wr ls (tcode (tkn B s sg))) := by
  have l52 : kLen.getD ls 0 ≤ 52 := by
    have h52 : ∀ ls, ls < 20 → kLen.getD ls 0 ≤ 52 := by decide +kernel
    exact h52 ls hls
  unfold f_X5_wordIn
  rw [h6, h7, pk_sub (by omega), show s + sg - s = sg by omega, pl_bd]
  have e := x_wm (N := N) S V hls hs h6 hB (kLen.getD ls 0) 0 0 (some 0) (by omega) (by omega) (fun j hj => by cases hj; omega) N (by omega)
  have e' : f_X5_wordIn_18 N S V 37 ls N (nI sg) 0 0 0 = _ := e
  have ok := List.all_eq_true.mp (wps_ok ls hls)
  rw [e', ← wps_join ls hls, wm_join B s sg _ 0 (wps_ne ls hls), wfind_wix (c := tcode (tkn B s sg)) _ 0 (fun p hp => tc_inj hv (ok p hp)), wps_tab ls hls]
  · rfl
  · intro w hw
    obtain ⟨p, hp, rfl⟩ := List.mem_map.mp hw
    have := ok p hp
    simp only [Bool.and_eq_true, decide_eq_true_eq, List.all_eq_true] at this
    exact ⟨this.1.1.2, fun c hc => this.1.2 c hc⟩
end
