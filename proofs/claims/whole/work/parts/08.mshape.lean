/-! The reference: its cells. handles: 1 refused[7], 2 kept[5715], 3 images[11430], 4 hasImage[2], 5 aside[64], 6 words[144], 7 tape[400], 8 five[5], 9 code[401], 10 value[401], 11 placed[401], 12 asked[10], 13 left0[528], 14 leftAhead[528], 15 offs[10], 16 balance[1024], 17 costs[1024], 18 steps0[26], 19 ends[150], 20 alike[26], 21 heaps[32], 22 parts[21], 23 sums[3], 24 drawnMoved[32] -/
def kMt : List Nat := [9, 11, 11, 11, 13, 11, 10, 10, 11, 11, 11, 11, 11, 11, 11, 11, 11, 11, 11, 11, 11, 11, 12, 12, 11]
def zMt : List Nat := [0, 7, 5715, 11430, 2, 64, 144, 400, 5, 401, 401, 401, 10, 528, 528, 10, 1024, 1024, 26, 150, 26, 32, 21, 3, 32]
def pMt : List Nat := [0, 2, 3, 4, 5, 6, 0, 7, 0, 0, 0, 8, 9, 0, 0, 10, 11, 12, 0, 0, 0, 0, 0, 0, 0, 0, 13, 0, 0, 14, 15, 0, 16, 17, 18, 19, 20, 21, 22, 23, 0, 0, 0, 0, 0, 0, 24, 25, 0, 0]
def SM (z : Nat) : St := (25, fun h => kMt.getD h 99, fun h => zMt.getD h 0, fun h j => if h = 0 then pMt.getD j 0 else 0, z)
theorem sm_n0 {z : Nat} : 0 < (SM z).1 := Nat.le_of_ble_eq_true rfl
theorem sm_k0 {z : Nat} : (SM z).2.1 0 = 9 := rfl
theorem sm_n1 {z : Nat} : 1 < (SM z).1 := Nat.le_of_ble_eq_true rfl
theorem sm_k1 {z : Nat} : (SM z).2.1 1 = 11 := rfl
theorem sm_z1 {z : Nat} : (SM z).2.2.1 1 = 7 := rfl
theorem sm_n2 {z : Nat} : 2 < (SM z).1 := Nat.le_of_ble_eq_true rfl
theorem sm_k2 {z : Nat} : (SM z).2.1 2 = 11 := rfl
theorem sm_z2 {z : Nat} : (SM z).2.2.1 2 = 5715 := rfl
theorem sm_n3 {z : Nat} : 3 < (SM z).1 := Nat.le_of_ble_eq_true rfl
theorem sm_k3 {z : Nat} : (SM z).2.1 3 = 11 := rfl
theorem sm_z3 {z : Nat} : (SM z).2.2.1 3 = 11430 := rfl
theorem sm_n4 {z : Nat} : 4 < (SM z).1 := Nat.le_of_ble_eq_true rfl
theorem sm_k4 {z : Nat} : (SM z).2.1 4 = 13 := rfl
theorem sm_z4 {z : Nat} : (SM z).2.2.1 4 = 2 := rfl
theorem sm_n5 {z : Nat} : 5 < (SM z).1 := Nat.le_of_ble_eq_true rfl
theorem sm_k5 {z : Nat} : (SM z).2.1 5 = 11 := rfl
theorem sm_z5 {z : Nat} : (SM z).2.2.1 5 = 64 := rfl
theorem sm_n6 {z : Nat} : 6 < (SM z).1 := Nat.le_of_ble_eq_true rfl
theorem sm_k6 {z : Nat} : (SM z).2.1 6 = 10 := rfl
theorem sm_z6 {z : Nat} : (SM z).2.2.1 6 = 144 := rfl
theorem sm_n7 {z : Nat} : 7 < (SM z).1 := Nat.le_of_ble_eq_true rfl
theorem sm_k7 {z : Nat} : (SM z).2.1 7 = 10 := rfl
theorem sm_z7 {z : Nat} : (SM z).2.2.1 7 = 400 := rfl
theorem sm_n8 {z : Nat} : 8 < (SM z).1 := Nat.le_of_ble_eq_true rfl
theorem sm_k8 {z : Nat} : (SM z).2.1 8 = 11 := rfl
theorem sm_z8 {z : Nat} : (SM z).2.2.1 8 = 5 := rfl
theorem sm_n9 {z : Nat} : 9 < (SM z).1 := Nat.le_of_ble_eq_true rfl
theorem sm_k9 {z : Nat} : (SM z).2.1 9 = 11 := rfl
theorem sm_z9 {z : Nat} : (SM z).2.2.1 9 = 401 := rfl
theorem sm_n10 {z : Nat} : 10 < (SM z).1 := Nat.le_of_ble_eq_true rfl
theorem sm_k10 {z : Nat} : (SM z).2.1 10 = 11 := rfl
theorem sm_z10 {z : Nat} : (SM z).2.2.1 10 = 401 := rfl
theorem sm_n11 {z : Nat} : 11 < (SM z).1 := Nat.le_of_ble_eq_true rfl
theorem sm_k11 {z : Nat} : (SM z).2.1 11 = 11 := rfl
theorem sm_z11 {z : Nat} : (SM z).2.2.1 11 = 401 := rfl
theorem sm_n12 {z : Nat} : 12 < (SM z).1 := Nat.le_of_ble_eq_true rfl
theorem sm_k12 {z : Nat} : (SM z).2.1 12 = 11 := rfl
theorem sm_z12 {z : Nat} : (SM z).2.2.1 12 = 10 := rfl
theorem sm_n13 {z : Nat} : 13 < (SM z).1 := Nat.le_of_ble_eq_true rfl
theorem sm_k13 {z : Nat} : (SM z).2.1 13 = 11 := rfl
theorem sm_z13 {z : Nat} : (SM z).2.2.1 13 = 528 := rfl
theorem sm_n14 {z : Nat} : 14 < (SM z).1 := Nat.le_of_ble_eq_true rfl
theorem sm_k14 {z : Nat} : (SM z).2.1 14 = 11 := rfl
theorem sm_z14 {z : Nat} : (SM z).2.2.1 14 = 528 := rfl
theorem sm_n15 {z : Nat} : 15 < (SM z).1 := Nat.le_of_ble_eq_true rfl
theorem sm_k15 {z : Nat} : (SM z).2.1 15 = 11 := rfl
theorem sm_z15 {z : Nat} : (SM z).2.2.1 15 = 10 := rfl
theorem sm_n16 {z : Nat} : 16 < (SM z).1 := Nat.le_of_ble_eq_true rfl
theorem sm_k16 {z : Nat} : (SM z).2.1 16 = 11 := rfl
theorem sm_z16 {z : Nat} : (SM z).2.2.1 16 = 1024 := rfl
theorem sm_n17 {z : Nat} : 17 < (SM z).1 := Nat.le_of_ble_eq_true rfl
theorem sm_k17 {z : Nat} : (SM z).2.1 17 = 11 := rfl
theorem sm_z17 {z : Nat} : (SM z).2.2.1 17 = 1024 := rfl
theorem sm_n18 {z : Nat} : 18 < (SM z).1 := Nat.le_of_ble_eq_true rfl
theorem sm_k18 {z : Nat} : (SM z).2.1 18 = 11 := rfl
theorem sm_z18 {z : Nat} : (SM z).2.2.1 18 = 26 := rfl
theorem sm_n19 {z : Nat} : 19 < (SM z).1 := Nat.le_of_ble_eq_true rfl
theorem sm_k19 {z : Nat} : (SM z).2.1 19 = 11 := rfl
theorem sm_z19 {z : Nat} : (SM z).2.2.1 19 = 150 := rfl
theorem sm_n20 {z : Nat} : 20 < (SM z).1 := Nat.le_of_ble_eq_true rfl
theorem sm_k20 {z : Nat} : (SM z).2.1 20 = 11 := rfl
theorem sm_z20 {z : Nat} : (SM z).2.2.1 20 = 26 := rfl
theorem sm_n21 {z : Nat} : 21 < (SM z).1 := Nat.le_of_ble_eq_true rfl
theorem sm_k21 {z : Nat} : (SM z).2.1 21 = 11 := rfl
theorem sm_z21 {z : Nat} : (SM z).2.2.1 21 = 32 := rfl
theorem sm_n22 {z : Nat} : 22 < (SM z).1 := Nat.le_of_ble_eq_true rfl
theorem sm_k22 {z : Nat} : (SM z).2.1 22 = 12 := rfl
theorem sm_z22 {z : Nat} : (SM z).2.2.1 22 = 21 := rfl
theorem sm_n23 {z : Nat} : 23 < (SM z).1 := Nat.le_of_ble_eq_true rfl
theorem sm_k23 {z : Nat} : (SM z).2.1 23 = 12 := rfl
theorem sm_z23 {z : Nat} : (SM z).2.2.1 23 = 3 := rfl
theorem sm_n24 {z : Nat} : 24 < (SM z).1 := Nat.le_of_ble_eq_true rfl
theorem sm_k24 {z : Nat} : (SM z).2.1 24 = 11 := rfl
theorem sm_z24 {z : Nat} : (SM z).2.2.1 24 = 32 := rfl
theorem sm_p1 {z : Nat} : (SM z).2.2.2.1 0 1 = 1 + 1 := rfl
theorem sm_p2 {z : Nat} : (SM z).2.2.2.1 0 2 = 2 + 1 := rfl
theorem sm_p3 {z : Nat} : (SM z).2.2.2.1 0 3 = 3 + 1 := rfl
theorem sm_p4 {z : Nat} : (SM z).2.2.2.1 0 4 = 4 + 1 := rfl
theorem sm_p5 {z : Nat} : (SM z).2.2.2.1 0 5 = 5 + 1 := rfl
theorem sm_p7 {z : Nat} : (SM z).2.2.2.1 0 7 = 6 + 1 := rfl
theorem sm_p11 {z : Nat} : (SM z).2.2.2.1 0 11 = 7 + 1 := rfl
theorem sm_p12 {z : Nat} : (SM z).2.2.2.1 0 12 = 8 + 1 := rfl
theorem sm_p15 {z : Nat} : (SM z).2.2.2.1 0 15 = 9 + 1 := rfl
theorem sm_p16 {z : Nat} : (SM z).2.2.2.1 0 16 = 10 + 1 := rfl
theorem sm_p17 {z : Nat} : (SM z).2.2.2.1 0 17 = 11 + 1 := rfl
theorem sm_p26 {z : Nat} : (SM z).2.2.2.1 0 26 = 12 + 1 := rfl
theorem sm_p29 {z : Nat} : (SM z).2.2.2.1 0 29 = 13 + 1 := rfl
theorem sm_p30 {z : Nat} : (SM z).2.2.2.1 0 30 = 14 + 1 := rfl
theorem sm_p32 {z : Nat} : (SM z).2.2.2.1 0 32 = 15 + 1 := rfl
theorem sm_p33 {z : Nat} : (SM z).2.2.2.1 0 33 = 16 + 1 := rfl
theorem sm_p34 {z : Nat} : (SM z).2.2.2.1 0 34 = 17 + 1 := rfl
theorem sm_p35 {z : Nat} : (SM z).2.2.2.1 0 35 = 18 + 1 := rfl
theorem sm_p36 {z : Nat} : (SM z).2.2.2.1 0 36 = 19 + 1 := rfl
theorem sm_p37 {z : Nat} : (SM z).2.2.2.1 0 37 = 20 + 1 := rfl
theorem sm_p38 {z : Nat} : (SM z).2.2.2.1 0 38 = 21 + 1 := rfl
theorem sm_p39 {z : Nat} : (SM z).2.2.2.1 0 39 = 22 + 1 := rfl
theorem sm_p46 {z : Nat} : (SM z).2.2.2.1 0 46 = 23 + 1 := rfl
theorem sm_p47 {z : Nat} : (SM z).2.2.2.1 0 47 = 24 + 1 := rfl
