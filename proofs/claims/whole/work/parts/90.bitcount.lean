section
theorem bc_nat {b0 b1 b2 b3 : Nat} (h0 : b0 < 256) (h1 : b1 < 256) (h2 : b2 < 256) (h3 : b3 < 256) :
    (let x := 256 * (256 * (256 * b3 + b2) + b1) + b0
     let x6 := x - ((x / 2) &&& 1431655765)
     let x7 := (x6 &&& 858993459) + ((x6 / 4) &&& 858993459)
     let x8 := (x7 + x7 / 16) &&& 252645135
     ((x / 2) &&& 1431655765) ≤ x ∧ x8 = 256 * (256 * (256 * pB b3 + pB b2) + pB b1) + pB b0) := by
  intro x x6 x7 x8
  have q0 := qB ⟨b0, h0⟩
  have q1 := qB ⟨b1, h1⟩
  have q2 := qB ⟨b2, h2⟩
  have q3 := qB ⟨b3, h3⟩
  obtain ⟨a01, a02, a03, a04, a05, a06⟩ := q0
  obtain ⟨a11, a12, a13, a14, a15, a16⟩ := q1
  obtain ⟨a21, a22, a23, a24, a25, a26⟩ := q2
  obtain ⟨a31, a32, a33, a34, a35, a36⟩ := q3
  simp only at a01 a02 a03 a04 a05 a11 a12 a13 a14 a15 a21 a22 a23 a24 a25 a31 a32 a33 a34 a35
  have t : (x / 2) &&& 1431655765 = 256 * (256 * (256 * tB b3 + tB b2) + tB b1) + tB b0 := by
    show ((256 * (256 * (256 * b3 + b2) + b1) + b0) / 2) &&& 1431655765 = _
    rw [show (1431655765 : Nat) = 256 * (256 * (256 * 85 + 85) + 85) + 85 from rfl, stA h0, stA h1, stA h2]
    rfl
  have e6 : x6 = 256 * (256 * (256 * sB b3 + sB b2) + sB b1) + sB b0 := by
    show x - ((x / 2) &&& 1431655765) = _
    rw [t]
    show 256 * (256 * (256 * b3 + b2) + b1) + b0 - _ = _
    unfold sB
    omega
  have e7 : x7 = 256 * (256 * (256 * uB (sB b3) + uB (sB b2)) + uB (sB b1)) + uB (sB b0) := by
    show (x6 &&& 858993459) + ((x6 / 4) &&& 858993459) = _
    rw [e6, show (858993459 : Nat) = 256 * (256 * (256 * 51 + 51) + 51) + 51 from rfl, stB a02, stB a12, stB a22, andB a02 (by omega), andB a12 (by omega), andB a22 (by omega)]
    unfold uB
    omega
  have e8 : x8 = 256 * (256 * (256 * pB b3 + pB b2) + pB b1) + pB b0 := by
    show (x7 + x7 / 16) &&& 252645135 = _
    rw [e7, show (252645135 : Nat) = 256 * (256 * (256 * 15 + 15) + 15) + 15 from rfl, stC a03 (by omega), stC a13 (by omega), stC a23 a34, and15]
    rfl
  refine ⟨?_, e8⟩
  rw [t]
  show _ ≤ 256 * (256 * (256 * b3 + b2) + b1) + b0
  omega
theorem bc_fin {a b c d : Nat} (ha : a ≤ 8) (hb : b ≤ 8) (hc : c ≤ 8) (hd : d ≤ 8) : (256 * (256 * (256 * d + c) + b) + a + (256 * (256 * (256 * d + c) + b) + a) / 256 + (256 * (256 * (256 * d + c) + b) + a + (256 * (256 * (256 * d + c) + b) + a) / 256) / 65536) % 64 = a + (b + (c + d)) := by
  have e1 : (256 * (256 * (256 * d + c) + b) + a) / 256 = 256 * (256 * d + c) + b := by omega
  rw [e1]
  have e2 : (256 * (256 * (256 * d + c) + b) + a + (256 * (256 * d + c) + b)) / 65536 = 257 * d + c := by omega
  rw [e2]
  omega
theorem x_bc {N x : Nat} (hx : x < 33554432) : f_J6_bitCount_0f7a4 N (nI x) = some (nI (cnt x 25)) := by
  obtain ⟨b0, hb0⟩ : ∃ b, b = x % 256 := ⟨_, rfl⟩
  obtain ⟨b1, hb1⟩ : ∃ b, b = x / 256 % 256 := ⟨_, rfl⟩
  obtain ⟨b2, hb2⟩ : ∃ b, b = x / 65536 % 256 := ⟨_, rfl⟩
  obtain ⟨b3, hb3⟩ : ∃ b, b = x / 16777216 := ⟨_, rfl⟩
  have ex : x = 256 * (256 * (256 * b3 + b2) + b1) + b0 := by omega
  have l0 : b0 < 256 := by omega
  have l1 : b1 < 256 := by omega
  have l2 : b2 < 256 := by omega
  have l3 : b3 < 2 := by omega
  have key := bc_nat l0 l1 l2 (show b3 < 256 by omega)
  simp only at key
  rw [← ex] at key
  obtain ⟨k1, k2⟩ := key
  have p0 := (qB ⟨b0, l0⟩).2.2.2.2
  have p1 := (qB ⟨b1, l1⟩).2.2.2.2
  have p2 := (qB ⟨b2, l2⟩).2.2.2.2
  have p3 := (qB ⟨b3, by omega⟩).2.2.2.2
  simp only at p0 p1 p2 p3
  obtain ⟨x6, e6⟩ : ∃ x6, x6 = x - ((x / 2) &&& 1431655765) := ⟨_, rfl⟩
  obtain ⟨x7, e7⟩ : ∃ x7, x7 = (x6 &&& 858993459) + ((x6 / 4) &&& 858993459) := ⟨_, rfl⟩
  obtain ⟨x8, e8⟩ : ∃ x8, x8 = (x7 + x7 / 16) &&& 252645135 := ⟨_, rfl⟩
  rw [← e6, ← e7, ← e8] at k2
  have m6 : x6 < 33554432 := by omega
  have m7 : x7 < 100000000 := by
    have u1 : x6 &&& 858993459 ≤ x6 := Nat.and_le_left
    have u2 : (x6 / 4) &&& 858993459 ≤ x6 / 4 := Nat.and_le_left
    omega
  have m8 : x8 < 200000000 := by
    have u1 : (x7 + x7 / 16) &&& 252645135 ≤ x7 + x7 / 16 := Nat.and_le_left
    omega
  have s1 : ((nI x).toUInt32 >>> ((1 : Int32).toUInt32 &&& Int32.toUInt32 31)).toInt32 = nI (x / 2) := ush_nI (j := 1) (by omega) (by omega)
  have s2 : ((nI x6).toUInt32 >>> ((2 : Int32).toUInt32 &&& Int32.toUInt32 31)).toInt32 = nI (x6 / 4) := ush_nI (j := 2) (by omega) (by omega)
  have s4 : ((nI x7).toUInt32 >>> ((4 : Int32).toUInt32 &&& Int32.toUInt32 31)).toInt32 = nI (x7 / 16) := ush_nI (j := 4) (by omega) (by omega)
  have s8 : ((nI x8).toUInt32 >>> ((8 : Int32).toUInt32 &&& Int32.toUInt32 31)).toInt32 = nI (x8 / 256) := ush_nI (j := 8) (by omega) (by omega)
  have s16 : ((nI (x8 + x8 / 256)).toUInt32 >>> ((16 : Int32).toUInt32 &&& Int32.toUInt32 31)).toInt32 = nI ((x8 + x8 / 256) / 65536) := ush_nI (j := 16) (by omega) (by omega)
  have a1 : nI x - (nI (x / 2) &&& (1431655765 : Int32)) = nI x6 := by
    rw [show (1431655765 : Int32) = nI 1431655765 from rfl, nx_and, pk_sub k1, e6]
  have a2 : (nI x6 &&& (858993459 : Int32)) + (nI (x6 / 4) &&& (858993459 : Int32)) = nI x7 := by
    rw [show (858993459 : Int32) = nI 858993459 from rfl, nx_and, nx_and, nI_add, e7]
  have a3 : (nI x7 + nI (x7 / 16)) &&& (252645135 : Int32) = nI x8 := by
    rw [nI_add, show (252645135 : Int32) = nI 252645135 from rfl, nx_and, e8]
  have a4 : nI (x8 + x8 / 256 + (x8 + x8 / 256) / 65536) &&& (63 : Int32) = nI ((x8 + x8 / 256 + (x8 + x8 / 256) / 65536) % 64) := by
    rw [show (63 : Int32) = nI 63 from rfl, nx_and, show (63 : Nat) = 2 ^ 6 - 1 from rfl, Nat.and_two_pow_sub_one_eq_mod]
  unfold f_J6_bitCount_0f7a4
  rw [s1, a1, pl_bd, s2, a2, pl_bd, s4, a3, pl_bd, s8, nI_add, pl_bd, s16, nI_add, pl_bd, a4]
  congr 2
  have c3 : cnt b3 1 = pB b3 := by
    rcases (by omega : b3 = 0 ∨ b3 = 1) with h | h <;> rw [h] <;> rfl
  have hc : cnt x 25 = pB b0 + (pB b1 + (pB b2 + pB b3)) := by
    rw [ex, show (25 : Nat) = 8 + (8 + (8 + 1)) from rfl, cnt_b _ _ l0, cnt_b _ _ l1, cnt_b _ _ l2, c3, p0.2, p1.2, p2.2]
  rw [hc, k2]
  exact bc_fin p0.1 p1.1 p2.1 p3.1
theorem m_onesC {N x : Nat} (hN : 20000 ≤ N) (hx : x < 33554432) : f_X9_ones N (nI x) = some (nI (cnt x 25)) := by
  obtain ⟨m, g1, n, en⟩ := lpN N (fun n (m : Int32) i => f_X9_ones_4 N n (nI x) m i) 25 (fun k m => m = nI (cnt x k)) (by
    rintro k m hk rfl
    refine ⟨nI (cnt x (k + 1)), rfl, fun n => ?_⟩
    show f_X9_ones_4 N (n + 1) (nI x) (nI (cnt x k)) (nI k) = f_X9_ones_4 N n (nI x) (nI (cnt x k + x / 2 ^ k % 2)) (nI (k + 1))
    have sh := pk_shrN (n := x) (by omega) (nI k &&& 31) k (s_l k (by omega))
    have an : nI (x / 2 ^ k) &&& 1 = nI (x / 2 ^ k % 2) := by
      have := pk_andN (n := x / 2 ^ k) (Nat.lt_of_le_of_lt (Nat.div_le_self _ _) (by omega)) (m := nI 1) 1 rfl
      exact this
    rw [f_X9_ones_4, if_neg (show ¬ (25 : Int32) ≤ nI k by rw [lj 25, nI_L (by omega) (by omega)]; omega), sh, an, nI_add, pl_bd, nI_1, pl_bd]) 0 (by omega) rfl
  have e1 : f_X9_ones N (nI x) = f_X9_ones_4 N (n + 1) (nI x) m (nI 25) := en
  rw [e1, f_X9_ones_4, if_pos (show (25 : Int32) ≤ nI 25 by decide), g1]
theorem lt25 {x : Int32} (h : ∀ i, i < 32 → 25 ≤ i → bt x i = false) : ∃ k, k < 33554432 ∧ x = nI k := by
  obtain ⟨n, hn, e⟩ := wb_of32 x
  refine ⟨n, ?_, e⟩
  rw [show (33554432 : Nat) = 2 ^ 25 from rfl]
  apply Nat.lt_pow_two_of_testBit
  intro i hi
  by_cases q : i < 32
  · rw [← bt_nI n q, ← e]; exact h i q hi
  · exact Nat.testBit_lt_two_pow (Nat.lt_of_lt_of_le hn (Nat.pow_le_pow_right (by omega) (by omega)))
theorem op_casts {N b0 : Nat} (hN : 20000 ≤ N) : Op_casts N b0 (Rel XL b0) := op_casts0 hN (fun x h => by
  obtain ⟨k, hk, e⟩ := lt25 h
  rw [e]
  exact ⟨nI (cnt k 25), x_bc hk, m_onesC hN hk⟩)
end
