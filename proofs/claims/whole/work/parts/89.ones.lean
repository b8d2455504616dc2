section
/-! the count of ones -/
theorem bt_nI (k : Nat) {i : Nat} (hi : i < 32) : bt (nI k) i = k.testBit i := by
  show (BitVec.ofNat 32 k).getLsbD i = k.testBit i
  rw [BitVec.getLsbD_ofNat, decide_eq_true hi, Bool.true_and]
theorem ush_nI {k j : Nat} (hk : k < 4294967296) (hj : j < 32) : ((nI k).toUInt32 >>> ((nI j).toUInt32 &&& Int32.toUInt32 31)).toInt32 = nI (k / 2 ^ j) := b_ext (fun i hi => by
  rw [b_ushr j hj, bt_nI _ hi, Nat.testBit_div_two_pow]
  by_cases h : j + i < 32
  · rw [bt_nI _ h, Nat.add_comm]
  · rw [b_big (by omega), Nat.add_comm]
    exact (Nat.testBit_lt_two_pow (Nat.lt_of_lt_of_le hk (by rw [show (4294967296 : Nat) = 2 ^ 32 from rfl]; exact Nat.pow_le_pow_right (by omega) (by omega)))).symm)
theorem andB {a b c d : Nat} (hb : b < 256) (hd : d < 256) : (256 * a + b) &&& (256 * c + d) = 256 * (a &&& c) + (b &&& d) := by
  have hbd : b &&& d < 2 ^ 8 := Nat.and_lt_two_pow _ hd
  apply Nat.eq_of_testBit_eq
  intro i
  rw [Nat.testBit_and, show (256 : Nat) = 2 ^ 8 from rfl, Nat.testBit_two_pow_mul_add _ hb, Nat.testBit_two_pow_mul_add _ hd, Nat.testBit_two_pow_mul_add _ hbd]
  by_cases h : i < 8
  · rw [if_pos h, if_pos h, if_pos h, Nat.testBit_and]
  · rw [if_neg h, if_neg h, if_neg h, Nat.testBit_and]
def tB (b : Nat) : Nat := (b / 2) &&& 85
def sB (b : Nat) : Nat := b - tB b
def uB (b : Nat) : Nat := (b &&& 51) + ((b / 4) &&& 51)
theorem q85 : ∀ r : Fin 2, ∀ b : Fin 256, (128 * r.1 + b.1 / 2) &&& 85 = tB b.1 := by decide +kernel
theorem q51 : ∀ r : Fin 4, ∀ b : Fin 256, (64 * r.1 + b.1 / 4) &&& 51 = (b.1 / 4) &&& 51 := by decide +kernel
def cnt (x : Nat) : Nat → Nat
  | 0 => 0
  | k + 1 => cnt x k + x / 2 ^ k % 2
def pB (b : Nat) : Nat := (uB (sB b) + uB (sB b) / 16) % 16
theorem qB : ∀ b : Fin 256, tB b.1 ≤ b.1 ∧ sB b.1 < 256 ∧ uB (sB b.1) ≤ 68 ∧ uB (sB b.1) % 16 ≤ 4 ∧ pB b.1 ≤ 8 ∧ pB b.1 = cnt b.1 8 := by decide +kernel
theorem stA {y b M : Nat} (hb : b < 256) : ((256 * y + b) / 2) &&& (256 * M + 85) = 256 * ((y / 2) &&& M) + tB b := by
  rw [show (256 * y + b) / 2 = 256 * (y / 2) + (128 * (y % 2) + b / 2) by omega, andB (by omega) (by omega)]
  have := q85 ⟨y % 2, Nat.mod_lt _ (by omega)⟩ ⟨b, hb⟩
  rw [show (128 * (y % 2) + b / 2) &&& 85 = tB b from this]
theorem stB {y b M : Nat} (hb : b < 256) : ((256 * y + b) / 4) &&& (256 * M + 51) = 256 * ((y / 4) &&& M) + ((b / 4) &&& 51) := by
  rw [show (256 * y + b) / 4 = 256 * (y / 4) + (64 * (y % 4) + b / 4) by omega, andB (by omega) (by omega)]
  have := q51 ⟨y % 4, Nat.mod_lt _ (by omega)⟩ ⟨b, hb⟩
  rw [show (64 * (y % 4) + b / 4) &&& 51 = (b / 4) &&& 51 from this]
theorem and15 (x : Nat) : x &&& 15 = x % 16 := Nat.and_two_pow_sub_one_eq_mod x 4
theorem stC {y d M : Nat} (hd : d ≤ 68) (hy : y % 16 ≤ 4) : ((256 * y + d) + (256 * y + d) / 16) &&& (256 * M + 15) = 256 * ((y + y / 16) &&& M) + (d + d / 16) % 16 := by
  rw [show (256 * y + d) + (256 * y + d) / 16 = 256 * (y + y / 16) + (d + d / 16 + 16 * (y % 16)) by omega, andB (by omega) (by omega), and15, show (d + d / 16 + 16 * (y % 16)) % 16 = (d + d / 16) % 16 by omega]
theorem cnt_b (y b : Nat) (hb : b < 256) : ∀ k, cnt (256 * y + b) (8 + k) = cnt b 8 + cnt y k
  | 0 => by
    simp only [cnt]
    omega
  | k + 1 => by
    have ih := cnt_b y b hb k
    show cnt (256 * y + b) (8 + k) + (256 * y + b) / 2 ^ (8 + k) % 2 = cnt b 8 + (cnt y k + y / 2 ^ k % 2)
    rw [ih, Nat.pow_add, ← Nat.div_div_eq_div_mul, show (256 * y + b) / 2 ^ 8 = y by omega]
    omega
end
