/-! PURE PART. Numbers, the words of the functions, loops -/
theorem li (n : Nat) : (@OfNat.ofNat Int32 n Int32.instOfNat) = nI (@OfNat.ofNat Nat n (instOfNatNat n)) := rfl
theorem lj (n : Nat) : (@OfNat.ofNat Int32 n Int32.instOfNat) = nI n := rfl
theorem pl_bd {α β : Type} (x : α) (k : α → β) : bd x k = k x := rfl
theorem pl_ob {α β : Type} (x : α) (V : Vt) (k : α → Vt → Option β) : ob (some (x, V)) k = k x V := rfl
theorem pl_ob1 {α β : Type} (x : α) (k : α → Option β) : ob1 (some x) k = k x := rfl
theorem pl_obv {β : Type} (V : Vt) (k : Vt → Option β) : obv (some V) k = k V := rfl
theorem pl_oa {α β : Type} (x : α) (S : St) (V : Vt) (k : α → St → Vt → Option β) : oa (some (x, S, V)) k = k x S V := rfl
theorem pl_oav {β : Type} (S : St) (V : Vt) (k : St → Vt → Option β) : oav (some (S, V)) k = k S V := rfl
theorem pl_cg {α : Type} (k : Option α) : cg true k = k := rfl
theorem pl_cb0 {α : Type} (k : Option α) : cb (nI 0) k = k := rfl
theorem pl_cb1 {α : Type} (k : Option α) : cb (nI 1) k = k := rfl
theorem pl_nl0 {α : Type} (a : α) (f : Nat → α) : nl 0 a f = a := rfl
theorem pl_nls {α : Type} (q : Nat) (a : α) (f : Nat → α) : nl (q + 1) a f = f q := rfl
theorem pl_ck {α : Type} {i n : Nat} (h : i < n) (hn : n < 2147483648) (k : Option α) : ck (nI i) n k = k := by
  have h1 : inb (nI i) n = true := by
    simp only [inb, Bool.and_eq_true, decide_eq_true_eq]
    exact ⟨nI_pos (by omega), by rw [nI_clamp (by omega)]; exact h⟩
  rw [ck, if_pos h1]
theorem nI_cl {n : Nat} (h : n < 2147483648) : (nI n).toNatClampNeg = n := nI_clamp h
theorem nI_tz {n : Nat} (h : n < 2147483648) : (nI n).toInt = (n : Int) := nI_toInt h
theorem nI_E {a b : Nat} (ha : a < 2147483648) (hb : b < 2147483648) : (nI a = nI b) = (a = b) := propext (nI_eq ha hb)
theorem nI_L {a b : Nat} (ha : a < 2147483648) (hb : b < 2147483648) : (nI a ≤ nI b) = (a ≤ b) := propext (nI_leI ha hb)
theorem nI_T {a b : Nat} (ha : a < 2147483648) (hb : b < 2147483648) : (nI a < nI b) = (a < b) := propext (nI_ltI ha hb)
theorem nI_s1 {a : Nat} (h : 0 < a) : nI a - nI 1 = nI (a - 1) := pk_sub h
/-- a number between two bounds, or not -/
theorem lies_c (N : Nat) (a : Int32) (lo hi : Nat) (hl : lo ≤ hi) (h : hi < 2147483648) : (∃ c : Nat, lo ≤ c ∧ c ≤ hi ∧ a = nI c ∧ f_X9_lies N a (nI lo) (nI hi) = some (nI 1)) ∨ (¬ (nI lo ≤ a ∧ a ≤ nI hi) ∧ f_X9_lies N a (nI lo) (nI hi) = some (nI 0)) := by
  unfold f_X9_lies
  by_cases h1 : a < nI lo
  · right; rw [if_pos h1]; exact ⟨fun q => (Int32.not_le.mpr h1) q.1, rfl⟩
  · by_cases h2 : nI hi < a
    · right; rw [if_neg h1, if_pos h2]; exact ⟨fun q => (Int32.not_le.mpr h2) q.2, rfl⟩
    · left
      have e1 : (lo : Int) ≤ a.toInt := by have := Int32.not_lt.mp h1; rw [Int32.le_iff_toInt_le, nI_tz (by omega)] at this; exact this
      have e2 : a.toInt ≤ (hi : Int) := by have := Int32.not_lt.mp h2; rw [Int32.le_iff_toInt_le, nI_tz h] at this; exact this
      refine ⟨a.toInt.toNat, by omega, by omega, Int32.toInt_inj.mp ?_, by rw [if_neg h1, if_neg h2]; rfl⟩
      rw [nI_tz (by omega)]; omega
theorem lies_n (N : Nat) {c lo hi : Nat} (h1 : lo ≤ c) (h2 : c ≤ hi) (h : hi < 2147483648) : f_X9_lies N (nI c) (nI lo) (nI hi) = some (nI 1) := by
  unfold f_X9_lies
  rw [if_neg (by rw [nI_T (by omega) (by omega)]; omega), if_neg (by rw [nI_T (by omega) (by omega)]; omega)]; rfl
theorem within_lies (N : Nat) (a lo hi : Int32) : f_X8_isWithin N a lo hi = f_X9_lies N a lo hi := rfl
theorem cell_c (N : Nat) (a : Int32) : (∃ c : Nat, c < 25 ∧ a = nI c ∧ f_X8_isCell N a = some (nI 1) ∧ f_X9_isCell N a = some (nI 1)) ∨ (f_X8_isCell N a = some (nI 0) ∧ f_X9_isCell N a = some (nI 0)) := by
  have h9 : f_X9_isCell N a = ob1 (f_X9_lies N a (nI 0) (nI 24)) (fun r3 => cb r3 (some r3)) := rfl
  rcases lies_c N a 0 24 (by omega) (by omega) with ⟨c, h1, h2, e, hl⟩ | ⟨hn, hl⟩
  · left
    refine ⟨c, by omega, e, ?_, ?_⟩
    · unfold f_X8_isCell
      rw [e, if_neg (nI_pos (by omega)), lj 25, if_neg (by rw [nI_L (by omega) (by omega)]; omega)]; rfl
    · rw [h9, hl]; rfl
  · right
    refine ⟨?_, by rw [h9, hl]; rfl⟩
    unfold f_X8_isCell
    by_cases c1 : a < 0
    · rw [if_pos c1]; rfl
    · rw [if_neg c1]
      by_cases c2 : (25 : Int32) ≤ a
      · rw [if_pos c2]; rfl
      · exfalso
        refine hn ⟨Int32.not_lt.mp c1, ?_⟩
        have := Int32.not_le.mp c2
        rw [Int32.lt_iff_toInt_lt] at this
        rw [Int32.le_iff_toInt_le]
        have e1 : (25 : Int32).toInt = 25 := rfl
        have e2 : (nI 24).toInt = 24 := rfl
        omega
theorem five_c (N : Nat) (a : Int32) : (∃ c : Nat, c < 5 ∧ a = nI c ∧ f_X8_isAccount N a = some (nI 1) ∧ f_X9_isFive N a = some (nI 1)) ∨ (f_X8_isAccount N a = some (nI 0) ∧ f_X9_isFive N a = some (nI 0)) := by
  have h9 : f_X9_isFive N a = ob1 (f_X9_lies N a (nI 0) (nI 4)) (fun r3 => cb r3 (some r3)) := rfl
  rcases lies_c N a 0 4 (by omega) (by omega) with ⟨c, h1, h2, e, hl⟩ | ⟨hn, hl⟩
  · left
    refine ⟨c, by omega, e, ?_, ?_⟩
    · unfold f_X8_isAccount
      rw [e, if_neg (nI_pos (by omega)), lj 5, if_neg (by rw [nI_L (by omega) (by omega)]; omega)]; rfl
    · rw [h9, hl]; rfl
  · right
    refine ⟨?_, by rw [h9, hl]; rfl⟩
    unfold f_X8_isAccount
    by_cases c1 : a < 0
    · rw [if_pos c1]; rfl
    · rw [if_neg c1]
      by_cases c2 : (5 : Int32) ≤ a
      · rw [if_pos c2]; rfl
      · exfalso
        refine hn ⟨Int32.not_lt.mp c1, ?_⟩
        have := Int32.not_le.mp c2
        rw [Int32.lt_iff_toInt_lt] at this
        rw [Int32.le_iff_toInt_le]
        have e1 : (5 : Int32).toInt = 5 := rfl
        have e2 : (nI 4).toInt = 4 := rfl
        omega
/-- a loop that counts: from i to m, what holds at each step -/
theorem lpE {σ β : Type} (f : Nat → σ → Int32 → Option β) (m : Nat) (P : Nat → σ → Prop) (h : ∀ i s, i < m → P i s → ∃ s', P (i + 1) s' ∧ ∀ n, f (n + 1) s (nI i) = f n s' (nI (i + 1))) : ∀ k i s, i + k = m → P i s → ∃ s', P m s' ∧ ∀ n, f (n + k) s (nI i) = f n s' (nI m) := by
  intro k
  induction k with
  | zero => intro i s e hp; exact ⟨s, by rw [← e]; exact hp, fun n => by rw [← e]; rfl⟩
  | succ k ih =>
    intro i s e hp
    obtain ⟨s1, hp1, e1⟩ := h i s (by omega) hp
    obtain ⟨s2, hp2, e2⟩ := ih (i + 1) s1 (by omega) hp1
    exact ⟨s2, hp2, fun n => by rw [show n + (k + 1) = n + k + 1 from rfl, e1, e2]⟩
/-- the same with an end: enough fuel, what comes behind it -/
theorem lpN {σ β : Type} (N : Nat) (f : Nat → σ → Int32 → Option β) (m : Nat) (P : Nat → σ → Prop) (h : ∀ i s, i < m → P i s → ∃ s', P (i + 1) s' ∧ ∀ n, f (n + 1) s (nI i) = f n s' (nI (i + 1))) (s : σ) (hm : m < N) (hp : P 0 s) : ∃ s', P m s' ∧ ∃ n, f N s (nI 0) = f (n + 1) s' (nI m) := by
  obtain ⟨s', hp', e⟩ := lpE f m P h m 0 s (by omega) hp
  refine ⟨s', hp', N - m - 1, ?_⟩
  rw [← e (N - m - 1 + 1)]
  congr 1
  omega
/-- rows after one number was put -/
theorem sA_e (V : Vt) (h j : Nat) (x : Int32) : (sA V h j x).2.1 h = upd (V.2.1 h) j x := by
  funext b; simp [sA, up2, upd]
theorem sA_n (V : Vt) (h j g : Nat) (x : Int32) (hg : g ≠ h) : (sA V h j x).2.1 g = V.2.1 g := by
  funext b; simp [sA, up2, hg]
theorem sF_n (V : Vt) (h j g : Nat) (x : Int32) (hg : g ≠ h) : (sF V h j x).1 g = V.1 g := by
  funext b; simp [sF, up2, hg]
theorem sF_e (V : Vt) (h j : Nat) (x : Int32) : (sF V h j x).1 h = upd (V.1 h) j x := by
  funext b; simp [sF, up2, upd]
theorem upd_e (f : Nat → Int32) (k : Nat) (x : Int32) : upd f k x k = x := if_pos rfl
theorem upd_n (f : Nat → Int32) (k j : Nat) (x : Int32) (h : j ≠ k) : upd f k x j = f j := if_neg h
theorem upd_b (f : Nat → Int32) (k j : Nat) (x : Int32) : upd f k x j = if j = k then x else f j := rfl
/-- refusals and grants -/
theorem x_granted (N : Nat) (S : St) (V : Vt) (a : Int32) : f_X8_granted N S V 0 a = some (a, sF V 0 18 (nI 0)) := rfl
theorem m_good (N : Nat) (V : Vt) (a : Int32) : f_X9_good N V a = some (a, sF V 0 0 (nI 0)) := rfl
theorem m_goodAnew (N : Nat) (V : Vt) (a : Int32) : f_X9_goodAnew N V a = some (a, sF (sF V 0 31 (nI 0)) 0 0 (nI 0)) := rfl
theorem x_clear (N : Nat) (S : St) (V : Vt) (o : Nat) : f_X1_clear N S V o = some (sF V o 1 (nI 0)) := rfl
/-- the places of the refusals -/
def rfI (k : Nat) : Nat := if k < 4 then k - 1 else k - 2
def rfX (V : Vt) (k : Nat) : Vt := sF (sA V 63 (rfI k) (V.2.1 63 (rfI k) + 1)) 0 18 (-nI k)
def rfM (V : Vt) (k : Nat) : Vt := sA (sF V 0 0 (-nI k)) 1 k (V.2.1 1 k + 1)
theorem x_ref1 (N : Nat) (S : St) (V : Vt) : f_X8_refused N S V 0 (-1) = some (-1, rfX V 1) := rfl
theorem x_ref2 (N : Nat) (S : St) (V : Vt) : f_X8_refused N S V 0 (-2) = some (-2, rfX V 2) := rfl
theorem x_ref3 (N : Nat) (S : St) (V : Vt) : f_X8_refused N S V 0 (-3) = some (-3, rfX V 3) := rfl
theorem x_ref5 (N : Nat) (S : St) (V : Vt) : f_X8_refused N S V 0 (-5) = some (-5, rfX V 5) := rfl
theorem x_ref6 (N : Nat) (S : St) (V : Vt) : f_X8_refused N S V 0 (-6) = some (-6, rfX V 6) := rfl
theorem m_ref1 (N : Nat) (V : Vt) : f_X9_refuses N V (-1) = some (-1, rfM V 1) := rfl
theorem m_ref2 (N : Nat) (V : Vt) : f_X9_refuses N V (-2) = some (-2, rfM V 2) := rfl
theorem m_ref3 (N : Nat) (V : Vt) : f_X9_refuses N V (-3) = some (-3, rfM V 3) := rfl
theorem m_ref5 (N : Nat) (V : Vt) : f_X9_refuses N V (-5) = some (-5, rfM V 5) := rfl
theorem m_ref6 (N : Nat) (V : Vt) : f_X9_refuses N V (-6) = some (-6, rfM V 6) := rfl
