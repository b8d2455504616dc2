section
/-! the constructors, walked -/
theorem z_arr {α : Type} {ad : Nat → Nat} {B : Nat} {T T1 T2 : St} {V V2 : Vt} {o j k n ci n0 n1 : Nat} {K : Nat → St → Vt → Option α} (hn : T.1 = n0) (e1 : n0 + 1 = n1) (had : ad n0 = B + n0) (h1 : nwA T k n = T1) (h2 : stP T1 o j (n0 + 1) = T2) (hv : zV V n0 = V2) (hk : ooB T1 o ci = true) : cg (ad (setZ T (B + n0)).1 == (setZ T (B + n0)).2.2.2.2) (bd (setZ T (B + n0)).1 (fun q => bd (nwA (setZ T (B + n0)) k n) (fun S => bd (zV V q) (fun V1 => cg (ooB S o ci) (bd (stP S o j (q + 1)) (fun S => K q S V1)))))) = K n0 (setZ T2 (B + n1)) V2 := by
  subst e1
  subst h2
  subst h1
  subst hv
  show cg (ad T.1 == B + n0) (bd T.1 (fun q => bd (nwA (setZ T (B + n0)) k n) (fun S => bd (zV V q) (fun V1 => cg (ooB S o ci) (bd (stP S o j (q + 1)) (fun S => K q S V1)))))) = _
  rw [hn, had, cgT (beq_self_eq_true _), pl_bd, pl_bd, pl_bd, cgT (show ooB (nwA (setZ T (B + n0)) k n) o ci = true from hk), pl_bd]
  rfl
theorem z_ar0 {α : Type} {ad : Nat → Nat} {B : Nat} {T T1 : St} {V V2 : Vt} {k n n0 n1 : Nat} {K : Nat → St → Vt → Option α} (hn : T.1 = n0) (e1 : n0 + 1 = n1) (had : ad n0 = B + n0) (h1 : nwA T k n = T1) (hv : zV V n0 = V2) : cg (ad (setZ T (B + n0)).1 == (setZ T (B + n0)).2.2.2.2) (bd (setZ T (B + n0)).1 (fun q => bd (nwA (setZ T (B + n0)) k n) (fun S => bd (zV V q) (fun V1 => K q S V1)))) = K n0 (setZ T1 (B + n1)) V2 := by
  subst e1
  subst h1
  subst hv
  show cg (ad T.1 == B + n0) (bd T.1 (fun q => bd (nwA (setZ T (B + n0)) k n) (fun S => bd (zV V q) (fun V1 => K q S V1)))) = _
  rw [hn, had, cgT (beq_self_eq_true _), pl_bd, pl_bd, pl_bd]
  rfl
theorem z_obj {α : Type} {ad : Nat → Nat} {B : Nat} {T T1 T2 T3 : St} {V V1 V2 : Vt} {o j c ci n0 n1 m : Nat} {I : St → Vt → Nat → Option (St × Vt)} {K : Nat → St → Vt → Option α} (hn : T.1 = n0) (e1 : n0 + 1 = n1) (had : ad n0 = B + n0) (h1 : nwO T c = T1) (h3 : stP T2 o j (n0 + 1) = T3) (hv : zV V n0 = V1) (hI : I (setZ T1 (B + n1)) V1 n0 = some (setZ T2 (B + m), V2)) (hk : ooB T2 o ci = true) : cg (ad (setZ T (B + n0)).1 == (setZ T (B + n0)).2.2.2.2) (bd (setZ T (B + n0)).1 (fun q => bd (nwO (setZ T (B + n0)) c) (fun S => bd (zV V q) (fun V1 => oav (I S V1 q) (fun S V2 => cg (ooB S o ci) (bd (stP S o j (q + 1)) (fun S => K q S V2))))))) = K n0 (setZ T3 (B + m)) V2 := by
  subst e1
  subst h3
  subst h1
  subst hv
  show cg (ad T.1 == B + n0) (bd T.1 (fun q => bd (nwO (setZ T (B + n0)) c) (fun S => bd (zV V q) (fun V1 => oav (I S V1 q) (fun S V2 => cg (ooB S o ci) (bd (stP S o j (q + 1)) (fun S => K q S V2))))))) = _
  have e : nwO (setZ T (B + n0)) c = setZ (nwO T c) (B + (n0 + 1)) := rfl
  rw [hn, had, cgT (beq_self_eq_true _), pl_bd, pl_bd, pl_bd, e, hI, pl_oav, cgT (show ooB (setZ T2 (B + m)) o ci = true from hk), pl_bd]
  rfl
theorem z_w {α : Type} {T : St} {z : Nat} {V V2 : Vt} {q k n : Nat} {a x : Int32} {K : Vt → Option α} (h : aaB T q k n = true) (ha : inb a n = true) (hv : sA V q a.toNatClampNeg x = V2) : cg (aaB (setZ T z) q k n) (ck a n (bd (sA V q a.toNatClampNeg x) K)) = K V2 := by
  subst hv
  rw [cgT (show aaB (setZ T z) q k n = true from h), ck, if_pos ha, pl_bd]
theorem z_P {α : Type} {T T2 : St} {z o j ci q : Nat} {K : St → Option α} (h : ooB T o ci = true) (h2 : stP T o j q = T2) : cg (ooB (setZ T z) o ci) (bd (stP (setZ T z) o j q) K) = K (setZ T2 z) := by
  subst h2
  rw [cgT (show ooB (setZ T z) o ci = true from h), pl_bd]
  rfl
theorem z_F {α : Type} {T : St} {z o j ci : Nat} {V V2 : Vt} {x : Int32} {K : Vt → Option α} (h : ooB T o ci = true) (hv : sF V o j x = V2) : cg (ooB (setZ T z) o ci) (bd (sF V o j x) K) = K V2 := by
  subst hv
  rw [cgT (show ooB (setZ T z) o ci = true from h), pl_bd]
theorem z_Q {α : Type} {T : St} {z o j ci q : Nat} {k : Option α} (h : ooB T o ci = true) (h2 : (T.2.2.2.1 o j == q) = true) : cg (ooB (setZ T z) o ci) (cg ((setZ T z).2.2.2.1 o j == q) k) = k := by
  rw [cgT (show ooB (setZ T z) o ci = true from h), cgT (show ((setZ T z).2.2.2.1 o j == q) = true from h2)]
def Zp (T : St) : Prop := (∀ i, 50 ≤ i → T.2.2.2.1 0 i = 0) ∧ ∀ h i, h ≠ 0 → T.2.2.2.1 h i = 0
theorem Zp_A {T : St} {k n : Nat} (h : Zp T) : Zp (nwA T k n) := ⟨fun i hi => h.1 i hi, fun g i hg => h.2 g i hg⟩
theorem Zp_P {T : St} {j q : Nat} (hj : j < 50) (h : Zp T) : Zp (stP T 0 j q) := ⟨fun i hi => by rw [stP_p, if_neg (by omega)]; exact h.1 i hi, fun g i hg => by rw [stP_p, if_neg (by omega)]; exact h.2 g i hg⟩
theorem Zp_O (c : Nat) : Zp (nwO (St0 0) c) := ⟨fun i _ => by rw [nwO_p, St0_n, if_pos rfl], fun g i hg => by rw [nwO_p, St0_n, if_neg hg]; rfl⟩
def Zl (T : St) : Prop := ∀ g, 64 ≤ g → T.2.2.1 g = 0
theorem Zl_P {T : St} {o j q : Nat} (h : Zl T) : Zl (stP T o j q) := fun g hg => h g hg
theorem Zl_O {T : St} {c : Nat} (h : Zl T) : Zl (nwO T c) := fun g hg => h g hg
theorem Zl_A {T : St} {k n : Nat} (h : Zl T) (hl : T.1 < 64) : Zl (nwA T k n) := fun g hg => by rw [nwA_l, if_neg (by omega)]; exact h g hg
def Tx0 : St := nwO (St0 0) 8
theorem LTx0 : Zl Tx0 := fun _ _ => rfl
def Vx0 : Vt := zV Vz 0
def Tx1 : St := nwO Tx0 0
theorem LTx1 : Zl Tx1 := Zl_O (T := Tx0) LTx0
def Vx2 : Vt := zV Vx0 1
def Tx3 : St := nwA Tx1 11 25
theorem LTx3 : Zl Tx3 := Zl_A (T := Tx1) LTx1 (by decide +kernel)
def Tx4 : St := stP Tx3 1 0 3
theorem LTx4 : Zl Tx4 := Zl_P (T := Tx3) LTx3
def Vx5 : Vt := zV Vx2 2
def Tx6 : St := nwA Tx4 11 25
theorem LTx6 : Zl Tx6 := Zl_A (T := Tx4) LTx4 (by decide +kernel)
def Tx7 : St := stP Tx6 1 1 4
theorem LTx7 : Zl Tx7 := Zl_P (T := Tx6) LTx6
def Vx8 : Vt := zV Vx5 3
def Tx9 : St := nwA Tx7 11 10
theorem LTx9 : Zl Tx9 := Zl_A (T := Tx7) LTx7 (by decide +kernel)
def Tx10 : St := stP Tx9 1 2 5
theorem LTx10 : Zl Tx10 := Zl_P (T := Tx9) LTx9
def Vx11 : Vt := zV Vx8 4
def Tx12 : St := nwA Tx10 11 5
theorem LTx12 : Zl Tx12 := Zl_A (T := Tx10) LTx10 (by decide +kernel)
def Tx13 : St := stP Tx12 1 3 6
theorem LTx13 : Zl Tx13 := Zl_P (T := Tx12) LTx12
def Vx14 : Vt := zV Vx11 5
def Tx15 : St := nwA Tx13 11 5
theorem LTx15 : Zl Tx15 := Zl_A (T := Tx13) LTx13 (by decide +kernel)
def Tx16 : St := stP Tx15 1 4 7
theorem LTx16 : Zl Tx16 := Zl_P (T := Tx15) LTx15
def Vx17 : Vt := zV Vx14 6
def Tx18 : St := nwA Tx16 11 3
theorem LTx18 : Zl Tx18 := Zl_A (T := Tx16) LTx16 (by decide +kernel)
def Vx19 : Vt := zV Vx17 7
def Vx20 : Vt := sA Vx19 7 0 (0 : Int32)
def Vx21 : Vt := sA Vx20 7 1 (1 : Int32)
def Vx22 : Vt := sA Vx21 7 2 (0 : Int32)
def Tx23 : St := stP Tx18 1 5 8
theorem LTx23 : Zl Tx23 := Zl_P (T := Tx18) LTx18
def Tx24 : St := nwA Tx23 15 6
theorem LTx24 : Zl Tx24 := Zl_A (T := Tx23) LTx23 (by decide +kernel)
def Tx25 : St := stP Tx24 1 6 9
theorem LTx25 : Zl Tx25 := Zl_P (T := Tx24) LTx24
def Vx26 : Vt := zV Vx22 8
def Tx27 : St := nwA Tx25 11 24
theorem LTx27 : Zl Tx27 := Zl_A (T := Tx25) LTx25 (by decide +kernel)
def Tx28 : St := stP Tx27 1 7 10
theorem LTx28 : Zl Tx28 := Zl_P (T := Tx27) LTx27
def Vx29 : Vt := zV Vx26 9
def Tx30 : St := nwA Tx28 11 30
theorem LTx30 : Zl Tx30 := Zl_A (T := Tx28) LTx28 (by decide +kernel)
def Tx31 : St := stP Tx30 1 8 11
theorem LTx31 : Zl Tx31 := Zl_P (T := Tx30) LTx30
def Vx32 : Vt := zV Vx29 10
def Vx33 : Vt := sF Vx32 1 11 (-1 : Int32)
def Tx34 : St := stP Tx31 0 0 2
theorem LTx34 : Zl Tx34 := Zl_P (T := Tx31) LTx31
def Tx35 : St := nwA Tx34 14 2
theorem LTx35 : Zl Tx35 := Zl_A (T := Tx34) LTx34 (by decide +kernel)
def Tx36 : St := stP Tx35 0 1 12
theorem LTx36 : Zl Tx36 := Zl_P (T := Tx35) LTx35
def Vx37 : Vt := zV Vx33 11
def Tx38 : St := nwO Tx36 0
theorem LTx38 : Zl Tx38 := Zl_O (T := Tx36) LTx36
def Vx39 : Vt := zV Vx37 12
def Tx40 : St := nwA Tx38 11 25
theorem LTx40 : Zl Tx40 := Zl_A (T := Tx38) LTx38 (by decide +kernel)
def Tx41 : St := stP Tx40 12 0 14
theorem LTx41 : Zl Tx41 := Zl_P (T := Tx40) LTx40
def Vx42 : Vt := zV Vx39 13
def Tx43 : St := nwA Tx41 11 25
theorem LTx43 : Zl Tx43 := Zl_A (T := Tx41) LTx41 (by decide +kernel)
def Tx44 : St := stP Tx43 12 1 15
theorem LTx44 : Zl Tx44 := Zl_P (T := Tx43) LTx43
def Vx45 : Vt := zV Vx42 14
def Tx46 : St := nwA Tx44 11 10
theorem LTx46 : Zl Tx46 := Zl_A (T := Tx44) LTx44 (by decide +kernel)
def Tx47 : St := stP Tx46 12 2 16
theorem LTx47 : Zl Tx47 := Zl_P (T := Tx46) LTx46
def Vx48 : Vt := zV Vx45 15
def Tx49 : St := nwA Tx47 11 5
theorem LTx49 : Zl Tx49 := Zl_A (T := Tx47) LTx47 (by decide +kernel)
def Tx50 : St := stP Tx49 12 3 17
theorem LTx50 : Zl Tx50 := Zl_P (T := Tx49) LTx49
def Vx51 : Vt := zV Vx48 16
def Tx52 : St := nwA Tx50 11 5
theorem LTx52 : Zl Tx52 := Zl_A (T := Tx50) LTx50 (by decide +kernel)
def Tx53 : St := stP Tx52 12 4 18
theorem LTx53 : Zl Tx53 := Zl_P (T := Tx52) LTx52
def Vx54 : Vt := zV Vx51 17
def Tx55 : St := nwA Tx53 11 3
theorem LTx55 : Zl Tx55 := Zl_A (T := Tx53) LTx53 (by decide +kernel)
def Vx56 : Vt := zV Vx54 18
def Vx57 : Vt := sA Vx56 18 0 (0 : Int32)
def Vx58 : Vt := sA Vx57 18 1 (1 : Int32)
def Vx59 : Vt := sA Vx58 18 2 (0 : Int32)
def Tx60 : St := stP Tx55 12 5 19
theorem LTx60 : Zl Tx60 := Zl_P (T := Tx55) LTx55
def Tx61 : St := nwA Tx60 15 6
theorem LTx61 : Zl Tx61 := Zl_A (T := Tx60) LTx60 (by decide +kernel)
def Tx62 : St := stP Tx61 12 6 20
theorem LTx62 : Zl Tx62 := Zl_P (T := Tx61) LTx61
def Vx63 : Vt := zV Vx59 19
def Tx64 : St := nwA Tx62 11 24
theorem LTx64 : Zl Tx64 := Zl_A (T := Tx62) LTx62 (by decide +kernel)
def Tx65 : St := stP Tx64 12 7 21
theorem LTx65 : Zl Tx65 := Zl_P (T := Tx64) LTx64
def Vx66 : Vt := zV Vx63 20
def Tx67 : St := nwA Tx65 11 30
theorem LTx67 : Zl Tx67 := Zl_A (T := Tx65) LTx65 (by decide +kernel)
def Tx68 : St := stP Tx67 12 8 22
theorem LTx68 : Zl Tx68 := Zl_P (T := Tx67) LTx67
def Vx69 : Vt := zV Vx66 21
def Vx70 : Vt := sF Vx69 12 11 (-1 : Int32)
def Tx71 : St := stP Tx68 0 2 13
theorem LTx71 : Zl Tx71 := Zl_P (T := Tx68) LTx68
def Tx72 : St := nwO Tx71 0
theorem LTx72 : Zl Tx72 := Zl_O (T := Tx71) LTx71
def Vx73 : Vt := zV Vx70 22
def Tx74 : St := nwA Tx72 11 25
theorem LTx74 : Zl Tx74 := Zl_A (T := Tx72) LTx72 (by decide +kernel)
def Tx75 : St := stP Tx74 22 0 24
theorem LTx75 : Zl Tx75 := Zl_P (T := Tx74) LTx74
def Vx76 : Vt := zV Vx73 23
def Tx77 : St := nwA Tx75 11 25
theorem LTx77 : Zl Tx77 := Zl_A (T := Tx75) LTx75 (by decide +kernel)
def Tx78 : St := stP Tx77 22 1 25
theorem LTx78 : Zl Tx78 := Zl_P (T := Tx77) LTx77
def Vx79 : Vt := zV Vx76 24
def Tx80 : St := nwA Tx78 11 10
theorem LTx80 : Zl Tx80 := Zl_A (T := Tx78) LTx78 (by decide +kernel)
def Tx81 : St := stP Tx80 22 2 26
theorem LTx81 : Zl Tx81 := Zl_P (T := Tx80) LTx80
def Vx82 : Vt := zV Vx79 25
def Tx83 : St := nwA Tx81 11 5
theorem LTx83 : Zl Tx83 := Zl_A (T := Tx81) LTx81 (by decide +kernel)
def Tx84 : St := stP Tx83 22 3 27
theorem LTx84 : Zl Tx84 := Zl_P (T := Tx83) LTx83
def Vx85 : Vt := zV Vx82 26
def Tx86 : St := nwA Tx84 11 5
theorem LTx86 : Zl Tx86 := Zl_A (T := Tx84) LTx84 (by decide +kernel)
def Tx87 : St := stP Tx86 22 4 28
theorem LTx87 : Zl Tx87 := Zl_P (T := Tx86) LTx86
def Vx88 : Vt := zV Vx85 27
def Tx89 : St := nwA Tx87 11 3
theorem LTx89 : Zl Tx89 := Zl_A (T := Tx87) LTx87 (by decide +kernel)
def Vx90 : Vt := zV Vx88 28
def Vx91 : Vt := sA Vx90 28 0 (0 : Int32)
def Vx92 : Vt := sA Vx91 28 1 (1 : Int32)
def Vx93 : Vt := sA Vx92 28 2 (0 : Int32)
def Tx94 : St := stP Tx89 22 5 29
theorem LTx94 : Zl Tx94 := Zl_P (T := Tx89) LTx89
def Tx95 : St := nwA Tx94 15 6
theorem LTx95 : Zl Tx95 := Zl_A (T := Tx94) LTx94 (by decide +kernel)
def Tx96 : St := stP Tx95 22 6 30
theorem LTx96 : Zl Tx96 := Zl_P (T := Tx95) LTx95
def Vx97 : Vt := zV Vx93 29
def Tx98 : St := nwA Tx96 11 24
theorem LTx98 : Zl Tx98 := Zl_A (T := Tx96) LTx96 (by decide +kernel)
def Tx99 : St := stP Tx98 22 7 31
theorem LTx99 : Zl Tx99 := Zl_P (T := Tx98) LTx98
def Vx100 : Vt := zV Vx97 30
def Tx101 : St := nwA Tx99 11 30
theorem LTx101 : Zl Tx101 := Zl_A (T := Tx99) LTx99 (by decide +kernel)
def Tx102 : St := stP Tx101 22 8 32
theorem LTx102 : Zl Tx102 := Zl_P (T := Tx101) LTx101
def Vx103 : Vt := zV Vx100 31
def Vx104 : Vt := sF Vx103 22 11 (-1 : Int32)
def Tx105 : St := stP Tx102 0 3 23
theorem LTx105 : Zl Tx105 := Zl_P (T := Tx102) LTx102
def Tx106 : St := nwO Tx105 1
theorem LTx106 : Zl Tx106 := Zl_O (T := Tx105) LTx105
def Vx107 : Vt := zV Vx104 32
def Tx108 : St := nwA Tx106 11 80
theorem LTx108 : Zl Tx108 := Zl_A (T := Tx106) LTx106 (by decide +kernel)
def Tx109 : St := stP Tx108 32 0 34
theorem LTx109 : Zl Tx109 := Zl_P (T := Tx108) LTx108
def Vx110 : Vt := zV Vx107 33
def Tx111 : St := stP Tx109 0 4 33
theorem LTx111 : Zl Tx111 := Zl_P (T := Tx109) LTx109
def Tx112 : St := nwO Tx111 1
theorem LTx112 : Zl Tx112 := Zl_O (T := Tx111) LTx111
def Vx113 : Vt := zV Vx110 34
def Tx114 : St := nwA Tx112 11 80
theorem LTx114 : Zl Tx114 := Zl_A (T := Tx112) LTx112 (by decide +kernel)
def Tx115 : St := stP Tx114 34 0 36
theorem LTx115 : Zl Tx115 := Zl_P (T := Tx114) LTx114
def Vx116 : Vt := zV Vx113 35
def Tx117 : St := stP Tx115 0 5 35
theorem LTx117 : Zl Tx117 := Zl_P (T := Tx115) LTx115
def Tx118 : St := nwA Tx117 11 400
theorem LTx118 : Zl Tx118 := Zl_A (T := Tx117) LTx117 (by decide +kernel)
def Tx119 : St := stP Tx118 0 6 37
theorem LTx119 : Zl Tx119 := Zl_P (T := Tx118) LTx118
def Vx120 : Vt := zV Vx116 36
def Tx121 : St := nwO Tx119 5
theorem LTx121 : Zl Tx121 := Zl_O (T := Tx119) LTx119
def Vx122 : Vt := zV Vx120 37
def Tx123 : St := nwA Tx121 11 400
theorem LTx123 : Zl Tx123 := Zl_A (T := Tx121) LTx121 (by decide +kernel)
def Tx124 : St := stP Tx123 37 0 39
theorem LTx124 : Zl Tx124 := Zl_P (T := Tx123) LTx123
def Vx125 : Vt := zV Vx122 38
def Tx126 : St := nwA Tx124 11 400
theorem LTx126 : Zl Tx126 := Zl_A (T := Tx124) LTx124 (by decide +kernel)
def Tx127 : St := stP Tx126 37 1 40
theorem LTx127 : Zl Tx127 := Zl_P (T := Tx126) LTx126
def Vx128 : Vt := zV Vx125 39
def Tx129 : St := nwA Tx127 11 448
theorem LTx129 : Zl Tx129 := Zl_A (T := Tx127) LTx127 (by decide +kernel)
def Tx130 : St := stP Tx129 37 2 41
theorem LTx130 : Zl Tx130 := Zl_P (T := Tx129) LTx129
def Vx131 : Vt := zV Vx128 40
def Tx132 : St := nwA Tx130 11 72
theorem LTx132 : Zl Tx132 := Zl_A (T := Tx130) LTx130 (by decide +kernel)
def Tx133 : St := stP Tx132 37 3 42
theorem LTx133 : Zl Tx133 := Zl_P (T := Tx132) LTx132
def Vx134 : Vt := zV Vx131 41
def Vx135 : Vt := sF Vx134 37 8 (-1 : Int32)
def Tx136 : St := stP Tx133 0 7 38
theorem LTx136 : Zl Tx136 := Zl_P (T := Tx133) LTx133
def Tx137 : St := nwO Tx136 4
theorem LTx137 : Zl Tx137 := Zl_O (T := Tx136) LTx136
def Vx138 : Vt := zV Vx135 42
def Tx139 : St := nwA Tx137 11 40
theorem LTx139 : Zl Tx139 := Zl_A (T := Tx137) LTx137 (by decide +kernel)
def Tx140 : St := stP Tx139 42 0 44
theorem LTx140 : Zl Tx140 := Zl_P (T := Tx139) LTx139
def Vx141 : Vt := zV Vx138 43
def Tx142 : St := stP Tx140 0 8 43
theorem LTx142 : Zl Tx142 := Zl_P (T := Tx140) LTx140
def Tx143 : St := nwO Tx142 6
theorem LTx143 : Zl Tx143 := Zl_O (T := Tx142) LTx142
def Vx144 : Vt := zV Vx141 44
def Tx145 : St := nwO Tx143 4
theorem LTx145 : Zl Tx145 := Zl_O (T := Tx143) LTx143
def Vx146 : Vt := zV Vx144 45
def Tx147 : St := nwA Tx145 11 40
theorem LTx147 : Zl Tx147 := Zl_A (T := Tx145) LTx145 (by decide +kernel)
def Tx148 : St := stP Tx147 45 0 47
theorem LTx148 : Zl Tx148 := Zl_P (T := Tx147) LTx147
def Vx149 : Vt := zV Vx146 46
def Tx150 : St := stP Tx148 44 0 46
theorem LTx150 : Zl Tx150 := Zl_P (T := Tx148) LTx148
def Tx151 : St := nwA Tx150 11 10
theorem LTx151 : Zl Tx151 := Zl_A (T := Tx150) LTx150 (by decide +kernel)
def Tx152 : St := stP Tx151 44 1 48
theorem LTx152 : Zl Tx152 := Zl_P (T := Tx151) LTx151
def Vx153 : Vt := zV Vx149 47
def Tx154 : St := stP Tx152 0 9 45
theorem LTx154 : Zl Tx154 := Zl_P (T := Tx152) LTx152
def Tx155 : St := nwO Tx154 3
theorem LTx155 : Zl Tx155 := Zl_O (T := Tx154) LTx154
def Vx156 : Vt := zV Vx153 48
def Tx157 : St := nwO Tx155 6
theorem LTx157 : Zl Tx157 := Zl_O (T := Tx155) LTx155
def Vx158 : Vt := zV Vx156 49
def Tx159 : St := nwO Tx157 4
theorem LTx159 : Zl Tx159 := Zl_O (T := Tx157) LTx157
def Vx160 : Vt := zV Vx158 50
def Tx161 : St := nwA Tx159 11 40
theorem LTx161 : Zl Tx161 := Zl_A (T := Tx159) LTx159 (by decide +kernel)
def Tx162 : St := stP Tx161 50 0 52
theorem LTx162 : Zl Tx162 := Zl_P (T := Tx161) LTx161
def Vx163 : Vt := zV Vx160 51
def Tx164 : St := stP Tx162 49 0 51
theorem LTx164 : Zl Tx164 := Zl_P (T := Tx162) LTx162
def Tx165 : St := nwA Tx164 11 10
theorem LTx165 : Zl Tx165 := Zl_A (T := Tx164) LTx164 (by decide +kernel)
def Tx166 : St := stP Tx165 49 1 53
theorem LTx166 : Zl Tx166 := Zl_P (T := Tx165) LTx165
def Vx167 : Vt := zV Vx163 52
def Tx168 : St := stP Tx166 48 0 50
theorem LTx168 : Zl Tx168 := Zl_P (T := Tx166) LTx166
def Tx169 : St := nwA Tx168 11 26
theorem LTx169 : Zl Tx169 := Zl_A (T := Tx168) LTx168 (by decide +kernel)
def Tx170 : St := stP Tx169 48 1 54
theorem LTx170 : Zl Tx170 := Zl_P (T := Tx169) LTx169
def Vx171 : Vt := zV Vx167 53
def Tx172 : St := nwA Tx170 11 25
theorem LTx172 : Zl Tx172 := Zl_A (T := Tx170) LTx170 (by decide +kernel)
def Tx173 : St := stP Tx172 48 2 55
theorem LTx173 : Zl Tx173 := Zl_P (T := Tx172) LTx172
def Vx174 : Vt := zV Vx171 54
def Tx175 : St := nwA Tx173 11 26
theorem LTx175 : Zl Tx175 := Zl_A (T := Tx173) LTx173 (by decide +kernel)
def Tx176 : St := stP Tx175 48 3 56
theorem LTx176 : Zl Tx176 := Zl_P (T := Tx175) LTx175
def Vx177 : Vt := zV Vx174 55
def Tx178 : St := nwA Tx176 11 150
theorem LTx178 : Zl Tx178 := Zl_A (T := Tx176) LTx176 (by decide +kernel)
def Tx179 : St := stP Tx178 48 4 57
theorem LTx179 : Zl Tx179 := Zl_P (T := Tx178) LTx178
def Vx180 : Vt := zV Vx177 56
def Tx181 : St := stP Tx179 0 10 49
theorem LTx181 : Zl Tx181 := Zl_P (T := Tx179) LTx179
def Tx182 : St := nwO Tx181 2
theorem LTx182 : Zl Tx182 := Zl_O (T := Tx181) LTx181
def Vx183 : Vt := zV Vx180 57
def Tx184 : St := nwA Tx182 11 10
theorem LTx184 : Zl Tx184 := Zl_A (T := Tx182) LTx182 (by decide +kernel)
def Tx185 : St := stP Tx184 57 0 59
theorem LTx185 : Zl Tx185 := Zl_P (T := Tx184) LTx184
def Vx186 : Vt := zV Vx183 58
def Tx187 : St := nwA Tx185 11 1024
theorem LTx187 : Zl Tx187 := Zl_A (T := Tx185) LTx185 (by decide +kernel)
def Tx188 : St := stP Tx187 57 1 60
theorem LTx188 : Zl Tx188 := Zl_P (T := Tx187) LTx187
def Vx189 : Vt := zV Vx186 59
def Tx190 : St := nwA Tx188 11 1024
theorem LTx190 : Zl Tx190 := Zl_A (T := Tx188) LTx188 (by decide +kernel)
def Tx191 : St := stP Tx190 57 2 61
theorem LTx191 : Zl Tx191 := Zl_P (T := Tx190) LTx190
def Vx192 : Vt := zV Vx189 60
def Tx193 : St := stP Tx191 0 11 58
theorem LTx193 : Zl Tx193 := Zl_P (T := Tx191) LTx191
def Tx194 : St := nwA Tx193 11 43
theorem LTx194 : Zl Tx194 := Zl_A (T := Tx193) LTx193 (by decide +kernel)
def Tx195 : St := stP Tx194 0 12 62
theorem LTx195 : Zl Tx195 := Zl_P (T := Tx194) LTx194
def Vx196 : Vt := zV Vx192 61
def Tx197 : St := nwA Tx195 12 20
theorem LTx197 : Zl Tx197 := Zl_A (T := Tx195) LTx195 (by decide +kernel)
def Tx198 : St := stP Tx197 0 13 63
theorem LTx198 : Zl Tx198 := Zl_P (T := Tx197) LTx197
def Vx199 : Vt := zV Vx196 62
def Tx200 : St := nwA Tx198 11 5
theorem LTx200 : Zl Tx200 := Zl_A (T := Tx198) LTx198 (by decide +kernel)
def Tx201 : St := stP Tx200 0 14 64
theorem LTx201 : Zl Tx201 := Zl_P (T := Tx200) LTx200
def Vx202 : Vt := zV Vx199 63
def Vx203 : Vt := sF Vx202 0 17 (-1 : Int32)
theorem ix1 (N b0 : Nat) : f_X0_init N (adX b0) (setZ Tx1 (b0 + 2)) Vx2 1 = some (setZ Tx31 (b0 + 11), Vx33) := by
  unfold f_X0_init
  refine (z_arr (ad := adX b0) (B := b0) (T := Tx1) (T1 := Tx3) (T2 := Tx4) (V := Vx2) (V2 := Vx5) (o := 1) (j := 0) (k := 11) (n := 25) (ci := 0) (n0 := 2) (n1 := 3) rfl rfl rfl rfl rfl rfl (by decide +kernel)).trans ?_
  refine (z_arr (ad := adX b0) (B := b0) (T := Tx4) (T1 := Tx6) (T2 := Tx7) (V := Vx5) (V2 := Vx8) (o := 1) (j := 1) (k := 11) (n := 25) (ci := 0) (n0 := 3) (n1 := 4) rfl rfl rfl rfl rfl rfl (by decide +kernel)).trans ?_
  refine (z_arr (ad := adX b0) (B := b0) (T := Tx7) (T1 := Tx9) (T2 := Tx10) (V := Vx8) (V2 := Vx11) (o := 1) (j := 2) (k := 11) (n := 10) (ci := 0) (n0 := 4) (n1 := 5) rfl rfl rfl rfl rfl rfl (by decide +kernel)).trans ?_
  refine (z_arr (ad := adX b0) (B := b0) (T := Tx10) (T1 := Tx12) (T2 := Tx13) (V := Vx11) (V2 := Vx14) (o := 1) (j := 3) (k := 11) (n := 5) (ci := 0) (n0 := 5) (n1 := 6) rfl rfl rfl rfl rfl rfl (by decide +kernel)).trans ?_
  refine (z_arr (ad := adX b0) (B := b0) (T := Tx13) (T1 := Tx15) (T2 := Tx16) (V := Vx14) (V2 := Vx17) (o := 1) (j := 4) (k := 11) (n := 5) (ci := 0) (n0 := 6) (n1 := 7) rfl rfl rfl rfl rfl rfl (by decide +kernel)).trans ?_
  refine (z_ar0 (ad := adX b0) (B := b0) (T := Tx16) (T1 := Tx18) (V := Vx17) (V2 := Vx19) (k := 11) (n := 3) (n0 := 7) (n1 := 8) rfl rfl rfl rfl rfl).trans ?_
  refine (z_w (T := Tx18) (z := b0 + 8) (V := Vx19) (V2 := Vx20) (q := 7) (k := 11) (n := 3) (a := (0 : Int32)) (x := (0 : Int32)) (by decide +kernel) (by decide +kernel) rfl).trans ?_
  refine (z_w (T := Tx18) (z := b0 + 8) (V := Vx20) (V2 := Vx21) (q := 7) (k := 11) (n := 3) (a := (1 : Int32)) (x := (1 : Int32)) (by decide +kernel) (by decide +kernel) rfl).trans ?_
  refine (z_w (T := Tx18) (z := b0 + 8) (V := Vx21) (V2 := Vx22) (q := 7) (k := 11) (n := 3) (a := (2 : Int32)) (x := (0 : Int32)) (by decide +kernel) (by decide +kernel) rfl).trans ?_
  refine (z_P (T := Tx18) (T2 := Tx23) (z := b0 + 8) (o := 1) (j := 5) (ci := 0) (q := 7 + 1) (by decide +kernel) rfl).trans ?_
  refine (z_arr (ad := adX b0) (B := b0) (T := Tx23) (T1 := Tx24) (T2 := Tx25) (V := Vx22) (V2 := Vx26) (o := 1) (j := 6) (k := 15) (n := 6) (ci := 0) (n0 := 8) (n1 := 9) rfl rfl rfl rfl rfl rfl (by decide +kernel)).trans ?_
  refine (z_arr (ad := adX b0) (B := b0) (T := Tx25) (T1 := Tx27) (T2 := Tx28) (V := Vx26) (V2 := Vx29) (o := 1) (j := 7) (k := 11) (n := 24) (ci := 0) (n0 := 9) (n1 := 10) rfl rfl rfl rfl rfl rfl (by decide +kernel)).trans ?_
  refine (z_arr (ad := adX b0) (B := b0) (T := Tx28) (T1 := Tx30) (T2 := Tx31) (V := Vx29) (V2 := Vx32) (o := 1) (j := 8) (k := 11) (n := 30) (ci := 0) (n0 := 10) (n1 := 11) rfl rfl rfl rfl rfl rfl (by decide +kernel)).trans ?_
  refine (z_F (T := Tx31) (z := b0 + 11) (V := Vx32) (V2 := Vx33) (o := 1) (j := 11) (ci := 0) (x := (-1 : Int32)) (by decide +kernel) rfl).trans ?_
  rfl
theorem ix12 (N b0 : Nat) : f_X0_init N (adX b0) (setZ Tx38 (b0 + 13)) Vx39 12 = some (setZ Tx68 (b0 + 22), Vx70) := by
  unfold f_X0_init
  refine (z_arr (ad := adX b0) (B := b0) (T := Tx38) (T1 := Tx40) (T2 := Tx41) (V := Vx39) (V2 := Vx42) (o := 12) (j := 0) (k := 11) (n := 25) (ci := 0) (n0 := 13) (n1 := 14) rfl rfl rfl rfl rfl rfl (by decide +kernel)).trans ?_
  refine (z_arr (ad := adX b0) (B := b0) (T := Tx41) (T1 := Tx43) (T2 := Tx44) (V := Vx42) (V2 := Vx45) (o := 12) (j := 1) (k := 11) (n := 25) (ci := 0) (n0 := 14) (n1 := 15) rfl rfl rfl rfl rfl rfl (by decide +kernel)).trans ?_
  refine (z_arr (ad := adX b0) (B := b0) (T := Tx44) (T1 := Tx46) (T2 := Tx47) (V := Vx45) (V2 := Vx48) (o := 12) (j := 2) (k := 11) (n := 10) (ci := 0) (n0 := 15) (n1 := 16) rfl rfl rfl rfl rfl rfl (by decide +kernel)).trans ?_
  refine (z_arr (ad := adX b0) (B := b0) (T := Tx47) (T1 := Tx49) (T2 := Tx50) (V := Vx48) (V2 := Vx51) (o := 12) (j := 3) (k := 11) (n := 5) (ci := 0) (n0 := 16) (n1 := 17) rfl rfl rfl rfl rfl rfl (by decide +kernel)).trans ?_
  refine (z_arr (ad := adX b0) (B := b0) (T := Tx50) (T1 := Tx52) (T2 := Tx53) (V := Vx51) (V2 := Vx54) (o := 12) (j := 4) (k := 11) (n := 5) (ci := 0) (n0 := 17) (n1 := 18) rfl rfl rfl rfl rfl rfl (by decide +kernel)).trans ?_
  refine (z_ar0 (ad := adX b0) (B := b0) (T := Tx53) (T1 := Tx55) (V := Vx54) (V2 := Vx56) (k := 11) (n := 3) (n0 := 18) (n1 := 19) rfl rfl rfl rfl rfl).trans ?_
  refine (z_w (T := Tx55) (z := b0 + 19) (V := Vx56) (V2 := Vx57) (q := 18) (k := 11) (n := 3) (a := (0 : Int32)) (x := (0 : Int32)) (by decide +kernel) (by decide +kernel) rfl).trans ?_
  refine (z_w (T := Tx55) (z := b0 + 19) (V := Vx57) (V2 := Vx58) (q := 18) (k := 11) (n := 3) (a := (1 : Int32)) (x := (1 : Int32)) (by decide +kernel) (by decide +kernel) rfl).trans ?_
  refine (z_w (T := Tx55) (z := b0 + 19) (V := Vx58) (V2 := Vx59) (q := 18) (k := 11) (n := 3) (a := (2 : Int32)) (x := (0 : Int32)) (by decide +kernel) (by decide +kernel) rfl).trans ?_
  refine (z_P (T := Tx55) (T2 := Tx60) (z := b0 + 19) (o := 12) (j := 5) (ci := 0) (q := 18 + 1) (by decide +kernel) rfl).trans ?_
  refine (z_arr (ad := adX b0) (B := b0) (T := Tx60) (T1 := Tx61) (T2 := Tx62) (V := Vx59) (V2 := Vx63) (o := 12) (j := 6) (k := 15) (n := 6) (ci := 0) (n0 := 19) (n1 := 20) rfl rfl rfl rfl rfl rfl (by decide +kernel)).trans ?_
  refine (z_arr (ad := adX b0) (B := b0) (T := Tx62) (T1 := Tx64) (T2 := Tx65) (V := Vx63) (V2 := Vx66) (o := 12) (j := 7) (k := 11) (n := 24) (ci := 0) (n0 := 20) (n1 := 21) rfl rfl rfl rfl rfl rfl (by decide +kernel)).trans ?_
  refine (z_arr (ad := adX b0) (B := b0) (T := Tx65) (T1 := Tx67) (T2 := Tx68) (V := Vx66) (V2 := Vx69) (o := 12) (j := 8) (k := 11) (n := 30) (ci := 0) (n0 := 21) (n1 := 22) rfl rfl rfl rfl rfl rfl (by decide +kernel)).trans ?_
  refine (z_F (T := Tx68) (z := b0 + 22) (V := Vx69) (V2 := Vx70) (o := 12) (j := 11) (ci := 0) (x := (-1 : Int32)) (by decide +kernel) rfl).trans ?_
  rfl
theorem ix22 (N b0 : Nat) : f_X0_init N (adX b0) (setZ Tx72 (b0 + 23)) Vx73 22 = some (setZ Tx102 (b0 + 32), Vx104) := by
  unfold f_X0_init
  refine (z_arr (ad := adX b0) (B := b0) (T := Tx72) (T1 := Tx74) (T2 := Tx75) (V := Vx73) (V2 := Vx76) (o := 22) (j := 0) (k := 11) (n := 25) (ci := 0) (n0 := 23) (n1 := 24) rfl rfl rfl rfl rfl rfl (by decide +kernel)).trans ?_
  refine (z_arr (ad := adX b0) (B := b0) (T := Tx75) (T1 := Tx77) (T2 := Tx78) (V := Vx76) (V2 := Vx79) (o := 22) (j := 1) (k := 11) (n := 25) (ci := 0) (n0 := 24) (n1 := 25) rfl rfl rfl rfl rfl rfl (by decide +kernel)).trans ?_
  refine (z_arr (ad := adX b0) (B := b0) (T := Tx78) (T1 := Tx80) (T2 := Tx81) (V := Vx79) (V2 := Vx82) (o := 22) (j := 2) (k := 11) (n := 10) (ci := 0) (n0 := 25) (n1 := 26) rfl rfl rfl rfl rfl rfl (by decide +kernel)).trans ?_
  refine (z_arr (ad := adX b0) (B := b0) (T := Tx81) (T1 := Tx83) (T2 := Tx84) (V := Vx82) (V2 := Vx85) (o := 22) (j := 3) (k := 11) (n := 5) (ci := 0) (n0 := 26) (n1 := 27) rfl rfl rfl rfl rfl rfl (by decide +kernel)).trans ?_
  refine (z_arr (ad := adX b0) (B := b0) (T := Tx84) (T1 := Tx86) (T2 := Tx87) (V := Vx85) (V2 := Vx88) (o := 22) (j := 4) (k := 11) (n := 5) (ci := 0) (n0 := 27) (n1 := 28) rfl rfl rfl rfl rfl rfl (by decide +kernel)).trans ?_
  refine (z_ar0 (ad := adX b0) (B := b0) (T := Tx87) (T1 := Tx89) (V := Vx88) (V2 := Vx90) (k := 11) (n := 3) (n0 := 28) (n1 := 29) rfl rfl rfl rfl rfl).trans ?_
  refine (z_w (T := Tx89) (z := b0 + 29) (V := Vx90) (V2 := Vx91) (q := 28) (k := 11) (n := 3) (a := (0 : Int32)) (x := (0 : Int32)) (by decide +kernel) (by decide +kernel) rfl).trans ?_
  refine (z_w (T := Tx89) (z := b0 + 29) (V := Vx91) (V2 := Vx92) (q := 28) (k := 11) (n := 3) (a := (1 : Int32)) (x := (1 : Int32)) (by decide +kernel) (by decide +kernel) rfl).trans ?_
  refine (z_w (T := Tx89) (z := b0 + 29) (V := Vx92) (V2 := Vx93) (q := 28) (k := 11) (n := 3) (a := (2 : Int32)) (x := (0 : Int32)) (by decide +kernel) (by decide +kernel) rfl).trans ?_
  refine (z_P (T := Tx89) (T2 := Tx94) (z := b0 + 29) (o := 22) (j := 5) (ci := 0) (q := 28 + 1) (by decide +kernel) rfl).trans ?_
  refine (z_arr (ad := adX b0) (B := b0) (T := Tx94) (T1 := Tx95) (T2 := Tx96) (V := Vx93) (V2 := Vx97) (o := 22) (j := 6) (k := 15) (n := 6) (ci := 0) (n0 := 29) (n1 := 30) rfl rfl rfl rfl rfl rfl (by decide +kernel)).trans ?_
  refine (z_arr (ad := adX b0) (B := b0) (T := Tx96) (T1 := Tx98) (T2 := Tx99) (V := Vx97) (V2 := Vx100) (o := 22) (j := 7) (k := 11) (n := 24) (ci := 0) (n0 := 30) (n1 := 31) rfl rfl rfl rfl rfl rfl (by decide +kernel)).trans ?_
  refine (z_arr (ad := adX b0) (B := b0) (T := Tx99) (T1 := Tx101) (T2 := Tx102) (V := Vx100) (V2 := Vx103) (o := 22) (j := 8) (k := 11) (n := 30) (ci := 0) (n0 := 31) (n1 := 32) rfl rfl rfl rfl rfl rfl (by decide +kernel)).trans ?_
  refine (z_F (T := Tx102) (z := b0 + 32) (V := Vx103) (V2 := Vx104) (o := 22) (j := 11) (ci := 0) (x := (-1 : Int32)) (by decide +kernel) rfl).trans ?_
  rfl
theorem ix32 (N b0 : Nat) : f_X1_init N (adX b0) (setZ Tx106 (b0 + 33)) Vx107 32 = some (setZ Tx109 (b0 + 34), Vx110) := by
  unfold f_X1_init
  refine (z_arr (ad := adX b0) (B := b0) (T := Tx106) (T1 := Tx108) (T2 := Tx109) (V := Vx107) (V2 := Vx110) (o := 32) (j := 0) (k := 11) (n := 80) (ci := 1) (n0 := 33) (n1 := 34) rfl rfl rfl rfl rfl rfl (by decide +kernel)).trans ?_
  rfl
theorem ix34 (N b0 : Nat) : f_X1_init N (adX b0) (setZ Tx112 (b0 + 35)) Vx113 34 = some (setZ Tx115 (b0 + 36), Vx116) := by
  unfold f_X1_init
  refine (z_arr (ad := adX b0) (B := b0) (T := Tx112) (T1 := Tx114) (T2 := Tx115) (V := Vx113) (V2 := Vx116) (o := 34) (j := 0) (k := 11) (n := 80) (ci := 1) (n0 := 35) (n1 := 36) rfl rfl rfl rfl rfl rfl (by decide +kernel)).trans ?_
  rfl
theorem ix37 (N b0 : Nat) : f_X5_init N (adX b0) (setZ Tx121 (b0 + 38)) Vx122 37 = some (setZ Tx133 (b0 + 42), Vx135) := by
  unfold f_X5_init
  refine (z_arr (ad := adX b0) (B := b0) (T := Tx121) (T1 := Tx123) (T2 := Tx124) (V := Vx122) (V2 := Vx125) (o := 37) (j := 0) (k := 11) (n := 400) (ci := 5) (n0 := 38) (n1 := 39) rfl rfl rfl rfl rfl rfl (by decide +kernel)).trans ?_
  refine (z_arr (ad := adX b0) (B := b0) (T := Tx124) (T1 := Tx126) (T2 := Tx127) (V := Vx125) (V2 := Vx128) (o := 37) (j := 1) (k := 11) (n := 400) (ci := 5) (n0 := 39) (n1 := 40) rfl rfl rfl rfl rfl rfl (by decide +kernel)).trans ?_
  refine (z_arr (ad := adX b0) (B := b0) (T := Tx127) (T1 := Tx129) (T2 := Tx130) (V := Vx128) (V2 := Vx131) (o := 37) (j := 2) (k := 11) (n := 448) (ci := 5) (n0 := 40) (n1 := 41) rfl rfl rfl rfl rfl rfl (by decide +kernel)).trans ?_
  refine (z_arr (ad := adX b0) (B := b0) (T := Tx130) (T1 := Tx132) (T2 := Tx133) (V := Vx131) (V2 := Vx134) (o := 37) (j := 3) (k := 11) (n := 72) (ci := 5) (n0 := 41) (n1 := 42) rfl rfl rfl rfl rfl rfl (by decide +kernel)).trans ?_
  refine (z_F (T := Tx133) (z := b0 + 42) (V := Vx134) (V2 := Vx135) (o := 37) (j := 8) (ci := 5) (x := (-1 : Int32)) (by decide +kernel) rfl).trans ?_
  rfl
theorem ix42 (N b0 : Nat) : f_X4_init N (adX b0) (setZ Tx137 (b0 + 43)) Vx138 42 = some (setZ Tx140 (b0 + 44), Vx141) := by
  unfold f_X4_init
  refine (z_arr (ad := adX b0) (B := b0) (T := Tx137) (T1 := Tx139) (T2 := Tx140) (V := Vx138) (V2 := Vx141) (o := 42) (j := 0) (k := 11) (n := 40) (ci := 4) (n0 := 43) (n1 := 44) rfl rfl rfl rfl rfl rfl (by decide +kernel)).trans ?_
  rfl
theorem ix45 (N b0 : Nat) : f_X4_init N (adX b0) (setZ Tx145 (b0 + 46)) Vx146 45 = some (setZ Tx148 (b0 + 47), Vx149) := by
  unfold f_X4_init
  refine (z_arr (ad := adX b0) (B := b0) (T := Tx145) (T1 := Tx147) (T2 := Tx148) (V := Vx146) (V2 := Vx149) (o := 45) (j := 0) (k := 11) (n := 40) (ci := 4) (n0 := 46) (n1 := 47) rfl rfl rfl rfl rfl rfl (by decide +kernel)).trans ?_
  rfl
theorem ix44 (N b0 : Nat) : f_X6_init N (adX b0) (setZ Tx143 (b0 + 45)) Vx144 44 = some (setZ Tx152 (b0 + 48), Vx153) := by
  unfold f_X6_init
  refine (z_obj (ad := adX b0) (B := b0) (T := Tx143) (T1 := Tx145) (T2 := Tx148) (T3 := Tx150) (V := Vx144) (V1 := Vx146) (V2 := Vx149) (o := 44) (j := 0) (c := 4) (ci := 6) (n0 := 45) (n1 := 46) (m := 47) (I := fun S V q => f_X4_init N (adX b0) S V q) rfl rfl rfl rfl rfl rfl (ix45 N b0) (by decide +kernel)).trans ?_
  refine (z_arr (ad := adX b0) (B := b0) (T := Tx150) (T1 := Tx151) (T2 := Tx152) (V := Vx149) (V2 := Vx153) (o := 44) (j := 1) (k := 11) (n := 10) (ci := 6) (n0 := 47) (n1 := 48) rfl rfl rfl rfl rfl rfl (by decide +kernel)).trans ?_
  rfl
theorem ix50 (N b0 : Nat) : f_X4_init N (adX b0) (setZ Tx159 (b0 + 51)) Vx160 50 = some (setZ Tx162 (b0 + 52), Vx163) := by
  unfold f_X4_init
  refine (z_arr (ad := adX b0) (B := b0) (T := Tx159) (T1 := Tx161) (T2 := Tx162) (V := Vx160) (V2 := Vx163) (o := 50) (j := 0) (k := 11) (n := 40) (ci := 4) (n0 := 51) (n1 := 52) rfl rfl rfl rfl rfl rfl (by decide +kernel)).trans ?_
  rfl
theorem ix49 (N b0 : Nat) : f_X6_init N (adX b0) (setZ Tx157 (b0 + 50)) Vx158 49 = some (setZ Tx166 (b0 + 53), Vx167) := by
  unfold f_X6_init
  refine (z_obj (ad := adX b0) (B := b0) (T := Tx157) (T1 := Tx159) (T2 := Tx162) (T3 := Tx164) (V := Vx158) (V1 := Vx160) (V2 := Vx163) (o := 49) (j := 0) (c := 4) (ci := 6) (n0 := 50) (n1 := 51) (m := 52) (I := fun S V q => f_X4_init N (adX b0) S V q) rfl rfl rfl rfl rfl rfl (ix50 N b0) (by decide +kernel)).trans ?_
  refine (z_arr (ad := adX b0) (B := b0) (T := Tx164) (T1 := Tx165) (T2 := Tx166) (V := Vx163) (V2 := Vx167) (o := 49) (j := 1) (k := 11) (n := 10) (ci := 6) (n0 := 52) (n1 := 53) rfl rfl rfl rfl rfl rfl (by decide +kernel)).trans ?_
  rfl
theorem ix48 (N b0 : Nat) : f_X3_init N (adX b0) (setZ Tx155 (b0 + 49)) Vx156 48 = some (setZ Tx179 (b0 + 57), Vx180) := by
  unfold f_X3_init
  refine (z_obj (ad := adX b0) (B := b0) (T := Tx155) (T1 := Tx157) (T2 := Tx166) (T3 := Tx168) (V := Vx156) (V1 := Vx158) (V2 := Vx167) (o := 48) (j := 0) (c := 6) (ci := 3) (n0 := 49) (n1 := 50) (m := 53) (I := fun S V q => f_X6_init N (adX b0) S V q) rfl rfl rfl rfl rfl rfl (ix49 N b0) (by decide +kernel)).trans ?_
  refine (z_arr (ad := adX b0) (B := b0) (T := Tx168) (T1 := Tx169) (T2 := Tx170) (V := Vx167) (V2 := Vx171) (o := 48) (j := 1) (k := 11) (n := 26) (ci := 3) (n0 := 53) (n1 := 54) rfl rfl rfl rfl rfl rfl (by decide +kernel)).trans ?_
  refine (z_arr (ad := adX b0) (B := b0) (T := Tx170) (T1 := Tx172) (T2 := Tx173) (V := Vx171) (V2 := Vx174) (o := 48) (j := 2) (k := 11) (n := 25) (ci := 3) (n0 := 54) (n1 := 55) rfl rfl rfl rfl rfl rfl (by decide +kernel)).trans ?_
  refine (z_arr (ad := adX b0) (B := b0) (T := Tx173) (T1 := Tx175) (T2 := Tx176) (V := Vx174) (V2 := Vx177) (o := 48) (j := 3) (k := 11) (n := 26) (ci := 3) (n0 := 55) (n1 := 56) rfl rfl rfl rfl rfl rfl (by decide +kernel)).trans ?_
  refine (z_arr (ad := adX b0) (B := b0) (T := Tx176) (T1 := Tx178) (T2 := Tx179) (V := Vx177) (V2 := Vx180) (o := 48) (j := 4) (k := 11) (n := 150) (ci := 3) (n0 := 56) (n1 := 57) rfl rfl rfl rfl rfl rfl (by decide +kernel)).trans ?_
  rfl
theorem ix57 (N b0 : Nat) : f_X2_init N (adX b0) (setZ Tx182 (b0 + 58)) Vx183 57 = some (setZ Tx191 (b0 + 61), Vx192) := by
  unfold f_X2_init
  refine (z_arr (ad := adX b0) (B := b0) (T := Tx182) (T1 := Tx184) (T2 := Tx185) (V := Vx183) (V2 := Vx186) (o := 57) (j := 0) (k := 11) (n := 10) (ci := 2) (n0 := 58) (n1 := 59) rfl rfl rfl rfl rfl rfl (by decide +kernel)).trans ?_
  refine (z_arr (ad := adX b0) (B := b0) (T := Tx185) (T1 := Tx187) (T2 := Tx188) (V := Vx186) (V2 := Vx189) (o := 57) (j := 1) (k := 11) (n := 1024) (ci := 2) (n0 := 59) (n1 := 60) rfl rfl rfl rfl rfl rfl (by decide +kernel)).trans ?_
  refine (z_arr (ad := adX b0) (B := b0) (T := Tx188) (T1 := Tx190) (T2 := Tx191) (V := Vx189) (V2 := Vx192) (o := 57) (j := 2) (k := 11) (n := 1024) (ci := 2) (n0 := 60) (n1 := 61) rfl rfl rfl rfl rfl rfl (by decide +kernel)).trans ?_
  rfl
theorem iX (N b0 : Nat) : f_X8_init N (adX b0) (setZ Tx0 (b0 + 1)) Vx0 0 = some (setZ Tx201 (b0 + 64), Vx203) := by
  unfold f_X8_init
  refine (z_obj (ad := adX b0) (B := b0) (T := Tx0) (T1 := Tx1) (T2 := Tx31) (T3 := Tx34) (V := Vx0) (V1 := Vx2) (V2 := Vx33) (o := 0) (j := 0) (c := 0) (ci := 8) (n0 := 1) (n1 := 2) (m := 11) (I := fun S V q => f_X0_init N (adX b0) S V q) rfl rfl rfl rfl rfl rfl (ix1 N b0) (by decide +kernel)).trans ?_
  refine (z_arr (ad := adX b0) (B := b0) (T := Tx34) (T1 := Tx35) (T2 := Tx36) (V := Vx33) (V2 := Vx37) (o := 0) (j := 1) (k := 14) (n := 2) (ci := 8) (n0 := 11) (n1 := 12) rfl rfl rfl rfl rfl rfl (by decide +kernel)).trans ?_
  refine (z_obj (ad := adX b0) (B := b0) (T := Tx36) (T1 := Tx38) (T2 := Tx68) (T3 := Tx71) (V := Vx37) (V1 := Vx39) (V2 := Vx70) (o := 0) (j := 2) (c := 0) (ci := 8) (n0 := 12) (n1 := 13) (m := 22) (I := fun S V q => f_X0_init N (adX b0) S V q) rfl rfl rfl rfl rfl rfl (ix12 N b0) (by decide +kernel)).trans ?_
  refine (z_obj (ad := adX b0) (B := b0) (T := Tx71) (T1 := Tx72) (T2 := Tx102) (T3 := Tx105) (V := Vx70) (V1 := Vx73) (V2 := Vx104) (o := 0) (j := 3) (c := 0) (ci := 8) (n0 := 22) (n1 := 23) (m := 32) (I := fun S V q => f_X0_init N (adX b0) S V q) rfl rfl rfl rfl rfl rfl (ix22 N b0) (by decide +kernel)).trans ?_
  refine (z_obj (ad := adX b0) (B := b0) (T := Tx105) (T1 := Tx106) (T2 := Tx109) (T3 := Tx111) (V := Vx104) (V1 := Vx107) (V2 := Vx110) (o := 0) (j := 4) (c := 1) (ci := 8) (n0 := 32) (n1 := 33) (m := 34) (I := fun S V q => f_X1_init N (adX b0) S V q) rfl rfl rfl rfl rfl rfl (ix32 N b0) (by decide +kernel)).trans ?_
  refine (z_obj (ad := adX b0) (B := b0) (T := Tx111) (T1 := Tx112) (T2 := Tx115) (T3 := Tx117) (V := Vx110) (V1 := Vx113) (V2 := Vx116) (o := 0) (j := 5) (c := 1) (ci := 8) (n0 := 34) (n1 := 35) (m := 36) (I := fun S V q => f_X1_init N (adX b0) S V q) rfl rfl rfl rfl rfl rfl (ix34 N b0) (by decide +kernel)).trans ?_
  refine (z_arr (ad := adX b0) (B := b0) (T := Tx117) (T1 := Tx118) (T2 := Tx119) (V := Vx116) (V2 := Vx120) (o := 0) (j := 6) (k := 11) (n := 400) (ci := 8) (n0 := 36) (n1 := 37) rfl rfl rfl rfl rfl rfl (by decide +kernel)).trans ?_
  refine (z_obj (ad := adX b0) (B := b0) (T := Tx119) (T1 := Tx121) (T2 := Tx133) (T3 := Tx136) (V := Vx120) (V1 := Vx122) (V2 := Vx135) (o := 0) (j := 7) (c := 5) (ci := 8) (n0 := 37) (n1 := 38) (m := 42) (I := fun S V q => f_X5_init N (adX b0) S V q) rfl rfl rfl rfl rfl rfl (ix37 N b0) (by decide +kernel)).trans ?_
  refine (z_obj (ad := adX b0) (B := b0) (T := Tx136) (T1 := Tx137) (T2 := Tx140) (T3 := Tx142) (V := Vx135) (V1 := Vx138) (V2 := Vx141) (o := 0) (j := 8) (c := 4) (ci := 8) (n0 := 42) (n1 := 43) (m := 44) (I := fun S V q => f_X4_init N (adX b0) S V q) rfl rfl rfl rfl rfl rfl (ix42 N b0) (by decide +kernel)).trans ?_
  refine (z_obj (ad := adX b0) (B := b0) (T := Tx142) (T1 := Tx143) (T2 := Tx152) (T3 := Tx154) (V := Vx141) (V1 := Vx144) (V2 := Vx153) (o := 0) (j := 9) (c := 6) (ci := 8) (n0 := 44) (n1 := 45) (m := 48) (I := fun S V q => f_X6_init N (adX b0) S V q) rfl rfl rfl rfl rfl rfl (ix44 N b0) (by decide +kernel)).trans ?_
  refine (z_obj (ad := adX b0) (B := b0) (T := Tx154) (T1 := Tx155) (T2 := Tx179) (T3 := Tx181) (V := Vx153) (V1 := Vx156) (V2 := Vx180) (o := 0) (j := 10) (c := 3) (ci := 8) (n0 := 48) (n1 := 49) (m := 57) (I := fun S V q => f_X3_init N (adX b0) S V q) rfl rfl rfl rfl rfl rfl (ix48 N b0) (by decide +kernel)).trans ?_
  refine (z_obj (ad := adX b0) (B := b0) (T := Tx181) (T1 := Tx182) (T2 := Tx191) (T3 := Tx193) (V := Vx180) (V1 := Vx183) (V2 := Vx192) (o := 0) (j := 11) (c := 2) (ci := 8) (n0 := 57) (n1 := 58) (m := 61) (I := fun S V q => f_X2_init N (adX b0) S V q) rfl rfl rfl rfl rfl rfl (ix57 N b0) (by decide +kernel)).trans ?_
  refine (z_arr (ad := adX b0) (B := b0) (T := Tx193) (T1 := Tx194) (T2 := Tx195) (V := Vx192) (V2 := Vx196) (o := 0) (j := 12) (k := 11) (n := 43) (ci := 8) (n0 := 61) (n1 := 62) rfl rfl rfl rfl rfl rfl (by decide +kernel)).trans ?_
  refine (z_arr (ad := adX b0) (B := b0) (T := Tx195) (T1 := Tx197) (T2 := Tx198) (V := Vx196) (V2 := Vx199) (o := 0) (j := 13) (k := 12) (n := 20) (ci := 8) (n0 := 62) (n1 := 63) rfl rfl rfl rfl rfl rfl (by decide +kernel)).trans ?_
  refine (z_arr (ad := adX b0) (B := b0) (T := Tx198) (T1 := Tx200) (T2 := Tx201) (V := Vx199) (V2 := Vx202) (o := 0) (j := 14) (k := 11) (n := 5) (ci := 8) (n0 := 63) (n1 := 64) rfl rfl rfl rfl rfl rfl (by decide +kernel)).trans ?_
  refine (z_F (T := Tx201) (z := b0 + 64) (V := Vx202) (V2 := Vx203) (o := 0) (j := 17) (ci := 8) (x := (-1 : Int32)) (by decide +kernel) rfl).trans ?_
  rfl
def TsX : St := Tx201
def VsX : Vt := Vx203
theorem LTsX : Zl TsX := LTx201
end
