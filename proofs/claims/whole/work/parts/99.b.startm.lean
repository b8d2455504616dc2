section
/-! the reference's constructor, walked -/
def Tm0 : St := nwO (St0 0) 9
theorem LTm0 : Zl Tm0 := fun _ _ => rfl
theorem QTm0 : Zp Tm0 := Zp_O 9
def Vm0 : Vt := zV Vz 0
def Tm1 : St := nwA Tm0 11 7
theorem QTm1 : Zp Tm1 := Zp_A (T := Tm0) QTm0
theorem LTm1 : Zl Tm1 := Zl_A (T := Tm0) LTm0 (by decide +kernel)
def Tm2 : St := stP Tm1 0 1 2
theorem QTm2 : Zp Tm2 := Zp_P (T := Tm1) (by decide) QTm1
theorem LTm2 : Zl Tm2 := Zl_P (T := Tm1) LTm1
def Vm3 : Vt := zV Vm0 1
def Tm4 : St := nwA Tm2 11 5715
theorem QTm4 : Zp Tm4 := Zp_A (T := Tm2) QTm2
theorem LTm4 : Zl Tm4 := Zl_A (T := Tm2) LTm2 (by decide +kernel)
def Tm5 : St := stP Tm4 0 2 3
theorem QTm5 : Zp Tm5 := Zp_P (T := Tm4) (by decide) QTm4
theorem LTm5 : Zl Tm5 := Zl_P (T := Tm4) LTm4
def Vm6 : Vt := zV Vm3 2
def Tm7 : St := nwA Tm5 11 11430
theorem QTm7 : Zp Tm7 := Zp_A (T := Tm5) QTm5
theorem LTm7 : Zl Tm7 := Zl_A (T := Tm5) LTm5 (by decide +kernel)
def Tm8 : St := stP Tm7 0 3 4
theorem QTm8 : Zp Tm8 := Zp_P (T := Tm7) (by decide) QTm7
theorem LTm8 : Zl Tm8 := Zl_P (T := Tm7) LTm7
def Vm9 : Vt := zV Vm6 3
def Tm10 : St := nwA Tm8 13 2
theorem QTm10 : Zp Tm10 := Zp_A (T := Tm8) QTm8
theorem LTm10 : Zl Tm10 := Zl_A (T := Tm8) LTm8 (by decide +kernel)
def Tm11 : St := stP Tm10 0 4 5
theorem QTm11 : Zp Tm11 := Zp_P (T := Tm10) (by decide) QTm10
theorem LTm11 : Zl Tm11 := Zl_P (T := Tm10) LTm10
def Vm12 : Vt := zV Vm9 4
def Tm13 : St := nwA Tm11 11 64
theorem QTm13 : Zp Tm13 := Zp_A (T := Tm11) QTm11
theorem LTm13 : Zl Tm13 := Zl_A (T := Tm11) LTm11 (by decide +kernel)
def Tm14 : St := stP Tm13 0 5 6
theorem QTm14 : Zp Tm14 := Zp_P (T := Tm13) (by decide) QTm13
theorem LTm14 : Zl Tm14 := Zl_P (T := Tm13) LTm13
def Vm15 : Vt := zV Vm12 5
def Tm16 : St := nwA Tm14 10 144
theorem QTm16 : Zp Tm16 := Zp_A (T := Tm14) QTm14
theorem LTm16 : Zl Tm16 := Zl_A (T := Tm14) LTm14 (by decide +kernel)
def Vm17 : Vt := zV Vm15 6
def Vm18 : Vt := sA Vm17 6 0 (vp_nar .byte (108 : Int32))
def Vm19 : Vt := sA Vm18 6 1 (vp_nar .byte (101 : Int32))
def Vm20 : Vt := sA Vm19 6 2 (vp_nar .byte (97 : Int32))
def Vm21 : Vt := sA Vm20 6 3 (vp_nar .byte (100 : Int32))
def Vm22 : Vt := sA Vm21 6 4 (vp_nar .byte (115 : Int32))
def Vm23 : Vt := sA Vm22 6 5 (vp_nar .byte (32 : Int32))
def Vm24 : Vt := sA Vm23 6 6 (vp_nar .byte (116 : Int32))
def Vm25 : Vt := sA Vm24 6 7 (vp_nar .byte (97 : Int32))
def Vm26 : Vt := sA Vm25 6 8 (vp_nar .byte (107 : Int32))
def Vm27 : Vt := sA Vm26 6 9 (vp_nar .byte (101 : Int32))
def Vm28 : Vt := sA Vm27 6 10 (vp_nar .byte (115 : Int32))
def Vm29 : Vt := sA Vm28 6 11 (vp_nar .byte (32 : Int32))
def Vm30 : Vt := sA Vm29 6 12 (vp_nar .byte (98 : Int32))
def Vm31 : Vt := sA Vm30 6 13 (vp_nar .byte (105 : Int32))
def Vm32 : Vt := sA Vm31 6 14 (vp_nar .byte (116 : Int32))
def Vm33 : Vt := sA Vm32 6 15 (vp_nar .byte (101 : Int32))
def Vm34 : Vt := sA Vm33 6 16 (vp_nar .byte (115 : Int32))
def Vm35 : Vt := sA Vm34 6 17 (vp_nar .byte (32 : Int32))
def Vm36 : Vt := sA Vm35 6 18 (vp_nar .byte (98 : Int32))
def Vm37 : Vt := sA Vm36 6 19 (vp_nar .byte (97 : Int32))
def Vm38 : Vt := sA Vm37 6 20 (vp_nar .byte (114 : Int32))
def Vm39 : Vt := sA Vm38 6 21 (vp_nar .byte (115 : Int32))
def Vm40 : Vt := sA Vm39 6 22 (vp_nar .byte (32 : Int32))
def Vm41 : Vt := sA Vm40 6 23 (vp_nar .byte (105 : Int32))
def Vm42 : Vt := sA Vm41 6 24 (vp_nar .byte (102 : Int32))
def Vm43 : Vt := sA Vm42 6 25 (vp_nar .byte (32 : Int32))
def Vm44 : Vt := sA Vm43 6 26 (vp_nar .byte (111 : Int32))
def Vm45 : Vt := sA Vm44 6 27 (vp_nar .byte (114 : Int32))
def Vm46 : Vt := sA Vm45 6 28 (vp_nar .byte (32 : Int32))
def Vm47 : Vt := sA Vm46 6 29 (vp_nar .byte (97 : Int32))
def Vm48 : Vt := sA Vm47 6 30 (vp_nar .byte (110 : Int32))
def Vm49 : Vt := sA Vm48 6 31 (vp_nar .byte (100 : Int32))
def Vm50 : Vt := sA Vm49 6 32 (vp_nar .byte (32 : Int32))
def Vm51 : Vt := sA Vm50 6 33 (vp_nar .byte (110 : Int32))
def Vm52 : Vt := sA Vm51 6 34 (vp_nar .byte (111 : Int32))
def Vm53 : Vt := sA Vm52 6 35 (vp_nar .byte (116 : Int32))
def Vm54 : Vt := sA Vm53 6 36 (vp_nar .byte (32 : Int32))
def Vm55 : Vt := sA Vm54 6 37 (vp_nar .byte (99 : Int32))
def Vm56 : Vt := sA Vm55 6 38 (vp_nar .byte (101 : Int32))
def Vm57 : Vt := sA Vm56 6 39 (vp_nar .byte (108 : Int32))
def Vm58 : Vt := sA Vm57 6 40 (vp_nar .byte (108 : Int32))
def Vm59 : Vt := sA Vm58 6 41 (vp_nar .byte (32 : Int32))
def Vm60 : Vt := sA Vm59 6 42 (vp_nar .byte (114 : Int32))
def Vm61 : Vt := sA Vm60 6 43 (vp_nar .byte (111 : Int32))
def Vm62 : Vt := sA Vm61 6 44 (vp_nar .byte (119 : Int32))
def Vm63 : Vt := sA Vm62 6 45 (vp_nar .byte (32 : Int32))
def Vm64 : Vt := sA Vm63 6 46 (vp_nar .byte (99 : Int32))
def Vm65 : Vt := sA Vm64 6 47 (vp_nar .byte (111 : Int32))
def Vm66 : Vt := sA Vm65 6 48 (vp_nar .byte (108 : Int32))
def Vm67 : Vt := sA Vm66 6 49 (vp_nar .byte (117 : Int32))
def Vm68 : Vt := sA Vm67 6 50 (vp_nar .byte (109 : Int32))
def Vm69 : Vt := sA Vm68 6 51 (vp_nar .byte (110 : Int32))
def Vm70 : Vt := sA Vm69 6 52 (vp_nar .byte (32 : Int32))
def Vm71 : Vt := sA Vm70 6 53 (vp_nar .byte (99 : Int32))
def Vm72 : Vt := sA Vm71 6 54 (vp_nar .byte (108 : Int32))
def Vm73 : Vt := sA Vm72 6 55 (vp_nar .byte (101 : Int32))
def Vm74 : Vt := sA Vm73 6 56 (vp_nar .byte (114 : Int32))
def Vm75 : Vt := sA Vm74 6 57 (vp_nar .byte (107 : Int32))
def Vm76 : Vt := sA Vm75 6 58 (vp_nar .byte (32 : Int32))
def Vm77 : Vt := sA Vm76 6 59 (vp_nar .byte (107 : Int32))
def Vm78 : Vt := sA Vm77 6 60 (vp_nar .byte (101 : Int32))
def Vm79 : Vt := sA Vm78 6 61 (vp_nar .byte (101 : Int32))
def Vm80 : Vt := sA Vm79 6 62 (vp_nar .byte (110 : Int32))
def Vm81 : Vt := sA Vm80 6 63 (vp_nar .byte (32 : Int32))
def Vm82 : Vt := sA Vm81 6 64 (vp_nar .byte (109 : Int32))
def Vm83 : Vt := sA Vm82 6 65 (vp_nar .byte (111 : Int32))
def Vm84 : Vt := sA Vm83 6 66 (vp_nar .byte (111 : Int32))
def Vm85 : Vt := sA Vm84 6 67 (vp_nar .byte (100 : Int32))
def Vm86 : Vt := sA Vm85 6 68 (vp_nar .byte (32 : Int32))
def Vm87 : Vt := sA Vm86 6 69 (vp_nar .byte (101 : Int32))
def Vm88 : Vt := sA Vm87 6 70 (vp_nar .byte (110 : Int32))
def Vm89 : Vt := sA Vm88 6 71 (vp_nar .byte (116 : Int32))
def Vm90 : Vt := sA Vm89 6 72 (vp_nar .byte (114 : Int32))
def Vm91 : Vt := sA Vm90 6 73 (vp_nar .byte (121 : Int32))
def Vm92 : Vt := sA Vm91 6 74 (vp_nar .byte (32 : Int32))
def Vm93 : Vt := sA Vm92 6 75 (vp_nar .byte (111 : Int32))
def Vm94 : Vt := sA Vm93 6 76 (vp_nar .byte (102 : Int32))
def Vm95 : Vt := sA Vm94 6 77 (vp_nar .byte (102 : Int32))
def Vm96 : Vt := sA Vm95 6 78 (vp_nar .byte (32 : Int32))
def Vm97 : Vt := sA Vm96 6 79 (vp_nar .byte (97 : Int32))
def Vm98 : Vt := sA Vm97 6 80 (vp_nar .byte (99 : Int32))
def Vm99 : Vt := sA Vm98 6 81 (vp_nar .byte (114 : Int32))
def Vm100 : Vt := sA Vm99 6 82 (vp_nar .byte (111 : Int32))
def Vm101 : Vt := sA Vm100 6 83 (vp_nar .byte (115 : Int32))
def Vm102 : Vt := sA Vm101 6 84 (vp_nar .byte (115 : Int32))
def Vm103 : Vt := sA Vm102 6 85 (vp_nar .byte (32 : Int32))
def Vm104 : Vt := sA Vm103 6 86 (vp_nar .byte (100 : Int32))
def Vm105 : Vt := sA Vm104 6 87 (vp_nar .byte (97 : Int32))
def Vm106 : Vt := sA Vm105 6 88 (vp_nar .byte (121 : Int32))
def Vm107 : Vt := sA Vm106 6 89 (vp_nar .byte (32 : Int32))
def Vm108 : Vt := sA Vm107 6 90 (vp_nar .byte (100 : Int32))
def Vm109 : Vt := sA Vm108 6 91 (vp_nar .byte (111 : Int32))
def Vm110 : Vt := sA Vm109 6 92 (vp_nar .byte (110 : Int32))
def Vm111 : Vt := sA Vm110 6 93 (vp_nar .byte (101 : Int32))
def Vm112 : Vt := sA Vm111 6 94 (vp_nar .byte (32 : Int32))
def Vm113 : Vt := sA Vm112 6 95 (vp_nar .byte (108 : Int32))
def Vm114 : Vt := sA Vm113 6 96 (vp_nar .byte (97 : Int32))
def Vm115 : Vt := sA Vm114 6 97 (vp_nar .byte (116 : Int32))
def Vm116 : Vt := sA Vm115 6 98 (vp_nar .byte (101 : Int32))
def Vm117 : Vt := sA Vm116 6 99 (vp_nar .byte (115 : Int32))
def Vm118 : Vt := sA Vm117 6 100 (vp_nar .byte (116 : Int32))
def Vm119 : Vt := sA Vm118 6 101 (vp_nar .byte (32 : Int32))
def Vm120 : Vt := sA Vm119 6 102 (vp_nar .byte (104 : Int32))
def Vm121 : Vt := sA Vm120 6 103 (vp_nar .byte (97 : Int32))
def Vm122 : Vt := sA Vm121 6 104 (vp_nar .byte (110 : Int32))
def Vm123 : Vt := sA Vm122 6 105 (vp_nar .byte (100 : Int32))
def Vm124 : Vt := sA Vm123 6 106 (vp_nar .byte (32 : Int32))
def Vm125 : Vt := sA Vm124 6 107 (vp_nar .byte (116 : Int32))
def Vm126 : Vt := sA Vm125 6 108 (vp_nar .byte (97 : Int32))
def Vm127 : Vt := sA Vm126 6 109 (vp_nar .byte (107 : Int32))
def Vm128 : Vt := sA Vm127 6 110 (vp_nar .byte (101 : Int32))
def Vm129 : Vt := sA Vm128 6 111 (vp_nar .byte (32 : Int32))
def Vm130 : Vt := sA Vm129 6 112 (vp_nar .byte (98 : Int32))
def Vm131 : Vt := sA Vm130 6 113 (vp_nar .byte (121 : Int32))
def Vm132 : Vt := sA Vm131 6 114 (vp_nar .byte (32 : Int32))
def Vm133 : Vt := sA Vm132 6 115 (vp_nar .byte (115 : Int32))
def Vm134 : Vt := sA Vm133 6 116 (vp_nar .byte (104 : Int32))
def Vm135 : Vt := sA Vm134 6 117 (vp_nar .byte (105 : Int32))
def Vm136 : Vt := sA Vm135 6 118 (vp_nar .byte (102 : Int32))
def Vm137 : Vt := sA Vm136 6 119 (vp_nar .byte (116 : Int32))
def Vm138 : Vt := sA Vm137 6 120 (vp_nar .byte (32 : Int32))
def Vm139 : Vt := sA Vm138 6 121 (vp_nar .byte (116 : Int32))
def Vm140 : Vt := sA Vm139 6 122 (vp_nar .byte (111 : Int32))
def Vm141 : Vt := sA Vm140 6 123 (vp_nar .byte (32 : Int32))
def Vm142 : Vt := sA Vm141 6 124 (vp_nar .byte (111 : Int32))
def Vm143 : Vt := sA Vm142 6 125 (vp_nar .byte (102 : Int32))
def Vm144 : Vt := sA Vm143 6 126 (vp_nar .byte (32 : Int32))
def Vm145 : Vt := sA Vm144 6 127 (vp_nar .byte (102 : Int32))
def Vm146 : Vt := sA Vm145 6 128 (vp_nar .byte (101 : Int32))
def Vm147 : Vt := sA Vm146 6 129 (vp_nar .byte (110 : Int32))
def Vm148 : Vt := sA Vm147 6 130 (vp_nar .byte (99 : Int32))
def Vm149 : Vt := sA Vm148 6 131 (vp_nar .byte (101 : Int32))
def Vm150 : Vt := sA Vm149 6 132 (vp_nar .byte (32 : Int32))
def Vm151 : Vt := sA Vm150 6 133 (vp_nar .byte (112 : Int32))
def Vm152 : Vt := sA Vm151 6 134 (vp_nar .byte (97 : Int32))
def Vm153 : Vt := sA Vm152 6 135 (vp_nar .byte (115 : Int32))
def Vm154 : Vt := sA Vm153 6 136 (vp_nar .byte (115 : Int32))
def Vm155 : Vt := sA Vm154 6 137 (vp_nar .byte (32 : Int32))
def Vm156 : Vt := sA Vm155 6 138 (vp_nar .byte (116 : Int32))
def Vm157 : Vt := sA Vm156 6 139 (vp_nar .byte (105 : Int32))
def Vm158 : Vt := sA Vm157 6 140 (vp_nar .byte (109 : Int32))
def Vm159 : Vt := sA Vm158 6 141 (vp_nar .byte (101 : Int32))
def Vm160 : Vt := sA Vm159 6 142 (vp_nar .byte (115 : Int32))
def Vm161 : Vt := sA Vm160 6 143 (vp_nar .byte (32 : Int32))
def Tm162 : St := stP Tm16 0 7 7
theorem QTm162 : Zp Tm162 := Zp_P (T := Tm16) (by decide) QTm16
theorem LTm162 : Zl Tm162 := Zl_P (T := Tm16) LTm16
def Tm163 : St := nwA Tm162 10 400
theorem QTm163 : Zp Tm163 := Zp_A (T := Tm162) QTm162
theorem LTm163 : Zl Tm163 := Zl_A (T := Tm162) LTm162 (by decide +kernel)
def Tm164 : St := stP Tm163 0 11 8
theorem QTm164 : Zp Tm164 := Zp_P (T := Tm163) (by decide) QTm163
theorem LTm164 : Zl Tm164 := Zl_P (T := Tm163) LTm163
def Vm165 : Vt := zV Vm161 7
def Tm166 : St := nwA Tm164 11 5
theorem QTm166 : Zp Tm166 := Zp_A (T := Tm164) QTm164
theorem LTm166 : Zl Tm166 := Zl_A (T := Tm164) LTm164 (by decide +kernel)
def Tm167 : St := stP Tm166 0 12 9
theorem QTm167 : Zp Tm167 := Zp_P (T := Tm166) (by decide) QTm166
theorem LTm167 : Zl Tm167 := Zl_P (T := Tm166) LTm166
def Vm168 : Vt := zV Vm165 8
def Vm169 : Vt := sF Vm168 0 14 (-1 : Int32)
def Tm170 : St := nwA Tm167 11 401
theorem QTm170 : Zp Tm170 := Zp_A (T := Tm167) QTm167
theorem LTm170 : Zl Tm170 := Zl_A (T := Tm167) LTm167 (by decide +kernel)
def Tm171 : St := stP Tm170 0 15 10
theorem QTm171 : Zp Tm171 := Zp_P (T := Tm170) (by decide) QTm170
theorem LTm171 : Zl Tm171 := Zl_P (T := Tm170) LTm170
def Vm172 : Vt := zV Vm169 9
def Tm173 : St := nwA Tm171 11 401
theorem QTm173 : Zp Tm173 := Zp_A (T := Tm171) QTm171
theorem LTm173 : Zl Tm173 := Zl_A (T := Tm171) LTm171 (by decide +kernel)
def Tm174 : St := stP Tm173 0 16 11
theorem QTm174 : Zp Tm174 := Zp_P (T := Tm173) (by decide) QTm173
theorem LTm174 : Zl Tm174 := Zl_P (T := Tm173) LTm173
def Vm175 : Vt := zV Vm172 10
def Tm176 : St := nwA Tm174 11 401
theorem QTm176 : Zp Tm176 := Zp_A (T := Tm174) QTm174
theorem LTm176 : Zl Tm176 := Zl_A (T := Tm174) LTm174 (by decide +kernel)
def Tm177 : St := stP Tm176 0 17 12
theorem QTm177 : Zp Tm177 := Zp_P (T := Tm176) (by decide) QTm176
theorem LTm177 : Zl Tm177 := Zl_P (T := Tm176) LTm176
def Vm178 : Vt := zV Vm175 11
def Tm179 : St := nwA Tm177 11 10
theorem QTm179 : Zp Tm179 := Zp_A (T := Tm177) QTm177
theorem LTm179 : Zl Tm179 := Zl_A (T := Tm177) LTm177 (by decide +kernel)
def Tm180 : St := stP Tm179 0 26 13
theorem QTm180 : Zp Tm180 := Zp_P (T := Tm179) (by decide) QTm179
theorem LTm180 : Zl Tm180 := Zl_P (T := Tm179) LTm179
def Vm181 : Vt := zV Vm178 12
def Tm182 : St := nwA Tm180 11 528
theorem QTm182 : Zp Tm182 := Zp_A (T := Tm180) QTm180
theorem LTm182 : Zl Tm182 := Zl_A (T := Tm180) LTm180 (by decide +kernel)
def Tm183 : St := stP Tm182 0 29 14
theorem QTm183 : Zp Tm183 := Zp_P (T := Tm182) (by decide) QTm182
theorem LTm183 : Zl Tm183 := Zl_P (T := Tm182) LTm182
def Vm184 : Vt := zV Vm181 13
def Tm185 : St := nwA Tm183 11 528
theorem QTm185 : Zp Tm185 := Zp_A (T := Tm183) QTm183
theorem LTm185 : Zl Tm185 := Zl_A (T := Tm183) LTm183 (by decide +kernel)
def Tm186 : St := stP Tm185 0 30 15
theorem QTm186 : Zp Tm186 := Zp_P (T := Tm185) (by decide) QTm185
theorem LTm186 : Zl Tm186 := Zl_P (T := Tm185) LTm185
def Vm187 : Vt := zV Vm184 14
def Tm188 : St := nwA Tm186 11 10
theorem QTm188 : Zp Tm188 := Zp_A (T := Tm186) QTm186
theorem LTm188 : Zl Tm188 := Zl_A (T := Tm186) LTm186 (by decide +kernel)
def Tm189 : St := stP Tm188 0 32 16
theorem QTm189 : Zp Tm189 := Zp_P (T := Tm188) (by decide) QTm188
theorem LTm189 : Zl Tm189 := Zl_P (T := Tm188) LTm188
def Vm190 : Vt := zV Vm187 15
def Tm191 : St := nwA Tm189 11 1024
theorem QTm191 : Zp Tm191 := Zp_A (T := Tm189) QTm189
theorem LTm191 : Zl Tm191 := Zl_A (T := Tm189) LTm189 (by decide +kernel)
def Tm192 : St := stP Tm191 0 33 17
theorem QTm192 : Zp Tm192 := Zp_P (T := Tm191) (by decide) QTm191
theorem LTm192 : Zl Tm192 := Zl_P (T := Tm191) LTm191
def Vm193 : Vt := zV Vm190 16
def Tm194 : St := nwA Tm192 11 1024
theorem QTm194 : Zp Tm194 := Zp_A (T := Tm192) QTm192
theorem LTm194 : Zl Tm194 := Zl_A (T := Tm192) LTm192 (by decide +kernel)
def Tm195 : St := stP Tm194 0 34 18
theorem QTm195 : Zp Tm195 := Zp_P (T := Tm194) (by decide) QTm194
theorem LTm195 : Zl Tm195 := Zl_P (T := Tm194) LTm194
def Vm196 : Vt := zV Vm193 17
def Tm197 : St := nwA Tm195 11 26
theorem QTm197 : Zp Tm197 := Zp_A (T := Tm195) QTm195
theorem LTm197 : Zl Tm197 := Zl_A (T := Tm195) LTm195 (by decide +kernel)
def Tm198 : St := stP Tm197 0 35 19
theorem QTm198 : Zp Tm198 := Zp_P (T := Tm197) (by decide) QTm197
theorem LTm198 : Zl Tm198 := Zl_P (T := Tm197) LTm197
def Vm199 : Vt := zV Vm196 18
def Tm200 : St := nwA Tm198 11 150
theorem QTm200 : Zp Tm200 := Zp_A (T := Tm198) QTm198
theorem LTm200 : Zl Tm200 := Zl_A (T := Tm198) LTm198 (by decide +kernel)
def Tm201 : St := stP Tm200 0 36 20
theorem QTm201 : Zp Tm201 := Zp_P (T := Tm200) (by decide) QTm200
theorem LTm201 : Zl Tm201 := Zl_P (T := Tm200) LTm200
def Vm202 : Vt := zV Vm199 19
def Tm203 : St := nwA Tm201 11 26
theorem QTm203 : Zp Tm203 := Zp_A (T := Tm201) QTm201
theorem LTm203 : Zl Tm203 := Zl_A (T := Tm201) LTm201 (by decide +kernel)
def Tm204 : St := stP Tm203 0 37 21
theorem QTm204 : Zp Tm204 := Zp_P (T := Tm203) (by decide) QTm203
theorem LTm204 : Zl Tm204 := Zl_P (T := Tm203) LTm203
def Vm205 : Vt := zV Vm202 20
def Tm206 : St := nwA Tm204 11 32
theorem QTm206 : Zp Tm206 := Zp_A (T := Tm204) QTm204
theorem LTm206 : Zl Tm206 := Zl_A (T := Tm204) LTm204 (by decide +kernel)
def Tm207 : St := stP Tm206 0 38 22
theorem QTm207 : Zp Tm207 := Zp_P (T := Tm206) (by decide) QTm206
theorem LTm207 : Zl Tm207 := Zl_P (T := Tm206) LTm206
def Vm208 : Vt := zV Vm205 21
def Tm209 : St := nwA Tm207 12 21
theorem QTm209 : Zp Tm209 := Zp_A (T := Tm207) QTm207
theorem LTm209 : Zl Tm209 := Zl_A (T := Tm207) LTm207 (by decide +kernel)
def Tm210 : St := stP Tm209 0 39 23
theorem QTm210 : Zp Tm210 := Zp_P (T := Tm209) (by decide) QTm209
theorem LTm210 : Zl Tm210 := Zl_P (T := Tm209) LTm209
def Vm211 : Vt := zV Vm208 22
def Vm212 : Vt := sF Vm211 0 40 (-1 : Int32)
def Tm213 : St := nwA Tm210 12 3
theorem QTm213 : Zp Tm213 := Zp_A (T := Tm210) QTm210
theorem LTm213 : Zl Tm213 := Zl_A (T := Tm210) LTm210 (by decide +kernel)
def Tm214 : St := stP Tm213 0 46 24
theorem QTm214 : Zp Tm214 := Zp_P (T := Tm213) (by decide) QTm213
theorem LTm214 : Zl Tm214 := Zl_P (T := Tm213) LTm213
def Vm215 : Vt := zV Vm212 23
def Tm216 : St := nwA Tm214 11 32
theorem QTm216 : Zp Tm216 := Zp_A (T := Tm214) QTm214
theorem LTm216 : Zl Tm216 := Zl_A (T := Tm214) LTm214 (by decide +kernel)
def Tm217 : St := stP Tm216 0 47 25
theorem QTm217 : Zp Tm217 := Zp_P (T := Tm216) (by decide) QTm216
theorem LTm217 : Zl Tm217 := Zl_P (T := Tm216) LTm216
def Vm218 : Vt := zV Vm215 24
def Vm219 : Vt := sF Vm218 0 48 (-1 : Int32)
def Vm220 : Vt := sA Vm219 2 101 (1 : Int32)
def Vm221 : Vt := sA Vm220 2 107 (-1 : Int32)
set_option maxRecDepth 100000 in
theorem iM (N b0 : Nat) : f_X9_init N (adM b0) (setZ Tm0 (b0 + 64 + 1)) Vm0 0 = some (setZ Tm217 (b0 + 64 + 25), Vm221) := by
  unfold f_X9_init
  refine (z_arr (ad := adM b0) (B := b0 + 64) (T := Tm0) (T1 := Tm1) (T2 := Tm2) (V := Vm0) (V2 := Vm3) (o := 0) (j := 1) (k := 11) (n := 7) (ci := 9) (n0 := 1) (n1 := 2) rfl rfl rfl rfl rfl rfl (by decide +kernel)).trans ?_
  refine (z_arr (ad := adM b0) (B := b0 + 64) (T := Tm2) (T1 := Tm4) (T2 := Tm5) (V := Vm3) (V2 := Vm6) (o := 0) (j := 2) (k := 11) (n := 5715) (ci := 9) (n0 := 2) (n1 := 3) rfl rfl rfl rfl rfl rfl (by decide +kernel)).trans ?_
  refine (z_arr (ad := adM b0) (B := b0 + 64) (T := Tm5) (T1 := Tm7) (T2 := Tm8) (V := Vm6) (V2 := Vm9) (o := 0) (j := 3) (k := 11) (n := 11430) (ci := 9) (n0 := 3) (n1 := 4) rfl rfl rfl rfl rfl rfl (by decide +kernel)).trans ?_
  refine (z_arr (ad := adM b0) (B := b0 + 64) (T := Tm8) (T1 := Tm10) (T2 := Tm11) (V := Vm9) (V2 := Vm12) (o := 0) (j := 4) (k := 13) (n := 2) (ci := 9) (n0 := 4) (n1 := 5) rfl rfl rfl rfl rfl rfl (by decide +kernel)).trans ?_
  refine (z_arr (ad := adM b0) (B := b0 + 64) (T := Tm11) (T1 := Tm13) (T2 := Tm14) (V := Vm12) (V2 := Vm15) (o := 0) (j := 5) (k := 11) (n := 64) (ci := 9) (n0 := 5) (n1 := 6) rfl rfl rfl rfl rfl rfl (by decide +kernel)).trans ?_
  refine (z_ar0 (ad := adM b0) (B := b0 + 64) (T := Tm14) (T1 := Tm16) (V := Vm15) (V2 := Vm17) (k := 10) (n := 144) (n0 := 6) (n1 := 7) rfl rfl rfl rfl rfl).trans ?_
  refine (z_w (T := Tm16) (z := b0 + 64 + 7) (V := Vm17) (V2 := Vm18) (q := 6) (k := 10) (n := 144) (a := (0 : Int32)) (x := (vp_nar .byte (108 : Int32))) (by decide +kernel) (by decide +kernel) rfl).trans ?_
  refine (z_w (T := Tm16) (z := b0 + 64 + 7) (V := Vm18) (V2 := Vm19) (q := 6) (k := 10) (n := 144) (a := (1 : Int32)) (x := (vp_nar .byte (101 : Int32))) (by decide +kernel) (by decide +kernel) rfl).trans ?_
  refine (z_w (T := Tm16) (z := b0 + 64 + 7) (V := Vm19) (V2 := Vm20) (q := 6) (k := 10) (n := 144) (a := (2 : Int32)) (x := (vp_nar .byte (97 : Int32))) (by decide +kernel) (by decide +kernel) rfl).trans ?_
  refine (z_w (T := Tm16) (z := b0 + 64 + 7) (V := Vm20) (V2 := Vm21) (q := 6) (k := 10) (n := 144) (a := (3 : Int32)) (x := (vp_nar .byte (100 : Int32))) (by decide +kernel) (by decide +kernel) rfl).trans ?_
  refine (z_w (T := Tm16) (z := b0 + 64 + 7) (V := Vm21) (V2 := Vm22) (q := 6) (k := 10) (n := 144) (a := (4 : Int32)) (x := (vp_nar .byte (115 : Int32))) (by decide +kernel) (by decide +kernel) rfl).trans ?_
  refine (z_w (T := Tm16) (z := b0 + 64 + 7) (V := Vm22) (V2 := Vm23) (q := 6) (k := 10) (n := 144) (a := (5 : Int32)) (x := (vp_nar .byte (32 : Int32))) (by decide +kernel) (by decide +kernel) rfl).trans ?_
  refine (z_w (T := Tm16) (z := b0 + 64 + 7) (V := Vm23) (V2 := Vm24) (q := 6) (k := 10) (n := 144) (a := (6 : Int32)) (x := (vp_nar .byte (116 : Int32))) (by decide +kernel) (by decide +kernel) rfl).trans ?_
  refine (z_w (T := Tm16) (z := b0 + 64 + 7) (V := Vm24) (V2 := Vm25) (q := 6) (k := 10) (n := 144) (a := (7 : Int32)) (x := (vp_nar .byte (97 : Int32))) (by decide +kernel) (by decide +kernel) rfl).trans ?_
  refine (z_w (T := Tm16) (z := b0 + 64 + 7) (V := Vm25) (V2 := Vm26) (q := 6) (k := 10) (n := 144) (a := (8 : Int32)) (x := (vp_nar .byte (107 : Int32))) (by decide +kernel) (by decide +kernel) rfl).trans ?_
  refine (z_w (T := Tm16) (z := b0 + 64 + 7) (V := Vm26) (V2 := Vm27) (q := 6) (k := 10) (n := 144) (a := (9 : Int32)) (x := (vp_nar .byte (101 : Int32))) (by decide +kernel) (by decide +kernel) rfl).trans ?_
  refine (z_w (T := Tm16) (z := b0 + 64 + 7) (V := Vm27) (V2 := Vm28) (q := 6) (k := 10) (n := 144) (a := (10 : Int32)) (x := (vp_nar .byte (115 : Int32))) (by decide +kernel) (by decide +kernel) rfl).trans ?_
  refine (z_w (T := Tm16) (z := b0 + 64 + 7) (V := Vm28) (V2 := Vm29) (q := 6) (k := 10) (n := 144) (a := (11 : Int32)) (x := (vp_nar .byte (32 : Int32))) (by decide +kernel) (by decide +kernel) rfl).trans ?_
  refine (z_w (T := Tm16) (z := b0 + 64 + 7) (V := Vm29) (V2 := Vm30) (q := 6) (k := 10) (n := 144) (a := (12 : Int32)) (x := (vp_nar .byte (98 : Int32))) (by decide +kernel) (by decide +kernel) rfl).trans ?_
  refine (z_w (T := Tm16) (z := b0 + 64 + 7) (V := Vm30) (V2 := Vm31) (q := 6) (k := 10) (n := 144) (a := (13 : Int32)) (x := (vp_nar .byte (105 : Int32))) (by decide +kernel) (by decide +kernel) rfl).trans ?_
  refine (z_w (T := Tm16) (z := b0 + 64 + 7) (V := Vm31) (V2 := Vm32) (q := 6) (k := 10) (n := 144) (a := (14 : Int32)) (x := (vp_nar .byte (116 : Int32))) (by decide +kernel) (by decide +kernel) rfl).trans ?_
  refine (z_w (T := Tm16) (z := b0 + 64 + 7) (V := Vm32) (V2 := Vm33) (q := 6) (k := 10) (n := 144) (a := (15 : Int32)) (x := (vp_nar .byte (101 : Int32))) (by decide +kernel) (by decide +kernel) rfl).trans ?_
  refine (z_w (T := Tm16) (z := b0 + 64 + 7) (V := Vm33) (V2 := Vm34) (q := 6) (k := 10) (n := 144) (a := (16 : Int32)) (x := (vp_nar .byte (115 : Int32))) (by decide +kernel) (by decide +kernel) rfl).trans ?_
  refine (z_w (T := Tm16) (z := b0 + 64 + 7) (V := Vm34) (V2 := Vm35) (q := 6) (k := 10) (n := 144) (a := (17 : Int32)) (x := (vp_nar .byte (32 : Int32))) (by decide +kernel) (by decide +kernel) rfl).trans ?_
  refine (z_w (T := Tm16) (z := b0 + 64 + 7) (V := Vm35) (V2 := Vm36) (q := 6) (k := 10) (n := 144) (a := (18 : Int32)) (x := (vp_nar .byte (98 : Int32))) (by decide +kernel) (by decide +kernel) rfl).trans ?_
  refine (z_w (T := Tm16) (z := b0 + 64 + 7) (V := Vm36) (V2 := Vm37) (q := 6) (k := 10) (n := 144) (a := (19 : Int32)) (x := (vp_nar .byte (97 : Int32))) (by decide +kernel) (by decide +kernel) rfl).trans ?_
  refine (z_w (T := Tm16) (z := b0 + 64 + 7) (V := Vm37) (V2 := Vm38) (q := 6) (k := 10) (n := 144) (a := (20 : Int32)) (x := (vp_nar .byte (114 : Int32))) (by decide +kernel) (by decide +kernel) rfl).trans ?_
  refine (z_w (T := Tm16) (z := b0 + 64 + 7) (V := Vm38) (V2 := Vm39) (q := 6) (k := 10) (n := 144) (a := (21 : Int32)) (x := (vp_nar .byte (115 : Int32))) (by decide +kernel) (by decide +kernel) rfl).trans ?_
  refine (z_w (T := Tm16) (z := b0 + 64 + 7) (V := Vm39) (V2 := Vm40) (q := 6) (k := 10) (n := 144) (a := (22 : Int32)) (x := (vp_nar .byte (32 : Int32))) (by decide +kernel) (by decide +kernel) rfl).trans ?_
  refine (z_w (T := Tm16) (z := b0 + 64 + 7) (V := Vm40) (V2 := Vm41) (q := 6) (k := 10) (n := 144) (a := (23 : Int32)) (x := (vp_nar .byte (105 : Int32))) (by decide +kernel) (by decide +kernel) rfl).trans ?_
  refine (z_w (T := Tm16) (z := b0 + 64 + 7) (V := Vm41) (V2 := Vm42) (q := 6) (k := 10) (n := 144) (a := (24 : Int32)) (x := (vp_nar .byte (102 : Int32))) (by decide +kernel) (by decide +kernel) rfl).trans ?_
  refine (z_w (T := Tm16) (z := b0 + 64 + 7) (V := Vm42) (V2 := Vm43) (q := 6) (k := 10) (n := 144) (a := (25 : Int32)) (x := (vp_nar .byte (32 : Int32))) (by decide +kernel) (by decide +kernel) rfl).trans ?_
  refine (z_w (T := Tm16) (z := b0 + 64 + 7) (V := Vm43) (V2 := Vm44) (q := 6) (k := 10) (n := 144) (a := (26 : Int32)) (x := (vp_nar .byte (111 : Int32))) (by decide +kernel) (by decide +kernel) rfl).trans ?_
  refine (z_w (T := Tm16) (z := b0 + 64 + 7) (V := Vm44) (V2 := Vm45) (q := 6) (k := 10) (n := 144) (a := (27 : Int32)) (x := (vp_nar .byte (114 : Int32))) (by decide +kernel) (by decide +kernel) rfl).trans ?_
  refine (z_w (T := Tm16) (z := b0 + 64 + 7) (V := Vm45) (V2 := Vm46) (q := 6) (k := 10) (n := 144) (a := (28 : Int32)) (x := (vp_nar .byte (32 : Int32))) (by decide +kernel) (by decide +kernel) rfl).trans ?_
  refine (z_w (T := Tm16) (z := b0 + 64 + 7) (V := Vm46) (V2 := Vm47) (q := 6) (k := 10) (n := 144) (a := (29 : Int32)) (x := (vp_nar .byte (97 : Int32))) (by decide +kernel) (by decide +kernel) rfl).trans ?_
  refine (z_w (T := Tm16) (z := b0 + 64 + 7) (V := Vm47) (V2 := Vm48) (q := 6) (k := 10) (n := 144) (a := (30 : Int32)) (x := (vp_nar .byte (110 : Int32))) (by decide +kernel) (by decide +kernel) rfl).trans ?_
  refine (z_w (T := Tm16) (z := b0 + 64 + 7) (V := Vm48) (V2 := Vm49) (q := 6) (k := 10) (n := 144) (a := (31 : Int32)) (x := (vp_nar .byte (100 : Int32))) (by decide +kernel) (by decide +kernel) rfl).trans ?_
  refine (z_w (T := Tm16) (z := b0 + 64 + 7) (V := Vm49) (V2 := Vm50) (q := 6) (k := 10) (n := 144) (a := (32 : Int32)) (x := (vp_nar .byte (32 : Int32))) (by decide +kernel) (by decide +kernel) rfl).trans ?_
  refine (z_w (T := Tm16) (z := b0 + 64 + 7) (V := Vm50) (V2 := Vm51) (q := 6) (k := 10) (n := 144) (a := (33 : Int32)) (x := (vp_nar .byte (110 : Int32))) (by decide +kernel) (by decide +kernel) rfl).trans ?_
  refine (z_w (T := Tm16) (z := b0 + 64 + 7) (V := Vm51) (V2 := Vm52) (q := 6) (k := 10) (n := 144) (a := (34 : Int32)) (x := (vp_nar .byte (111 : Int32))) (by decide +kernel) (by decide +kernel) rfl).trans ?_
  refine (z_w (T := Tm16) (z := b0 + 64 + 7) (V := Vm52) (V2 := Vm53) (q := 6) (k := 10) (n := 144) (a := (35 : Int32)) (x := (vp_nar .byte (116 : Int32))) (by decide +kernel) (by decide +kernel) rfl).trans ?_
  refine (z_w (T := Tm16) (z := b0 + 64 + 7) (V := Vm53) (V2 := Vm54) (q := 6) (k := 10) (n := 144) (a := (36 : Int32)) (x := (vp_nar .byte (32 : Int32))) (by decide +kernel) (by decide +kernel) rfl).trans ?_
  refine (z_w (T := Tm16) (z := b0 + 64 + 7) (V := Vm54) (V2 := Vm55) (q := 6) (k := 10) (n := 144) (a := (37 : Int32)) (x := (vp_nar .byte (99 : Int32))) (by decide +kernel) (by decide +kernel) rfl).trans ?_
  refine (z_w (T := Tm16) (z := b0 + 64 + 7) (V := Vm55) (V2 := Vm56) (q := 6) (k := 10) (n := 144) (a := (38 : Int32)) (x := (vp_nar .byte (101 : Int32))) (by decide +kernel) (by decide +kernel) rfl).trans ?_
  refine (z_w (T := Tm16) (z := b0 + 64 + 7) (V := Vm56) (V2 := Vm57) (q := 6) (k := 10) (n := 144) (a := (39 : Int32)) (x := (vp_nar .byte (108 : Int32))) (by decide +kernel) (by decide +kernel) rfl).trans ?_
  refine (z_w (T := Tm16) (z := b0 + 64 + 7) (V := Vm57) (V2 := Vm58) (q := 6) (k := 10) (n := 144) (a := (40 : Int32)) (x := (vp_nar .byte (108 : Int32))) (by decide +kernel) (by decide +kernel) rfl).trans ?_
  refine (z_w (T := Tm16) (z := b0 + 64 + 7) (V := Vm58) (V2 := Vm59) (q := 6) (k := 10) (n := 144) (a := (41 : Int32)) (x := (vp_nar .byte (32 : Int32))) (by decide +kernel) (by decide +kernel) rfl).trans ?_
  refine (z_w (T := Tm16) (z := b0 + 64 + 7) (V := Vm59) (V2 := Vm60) (q := 6) (k := 10) (n := 144) (a := (42 : Int32)) (x := (vp_nar .byte (114 : Int32))) (by decide +kernel) (by decide +kernel) rfl).trans ?_
  refine (z_w (T := Tm16) (z := b0 + 64 + 7) (V := Vm60) (V2 := Vm61) (q := 6) (k := 10) (n := 144) (a := (43 : Int32)) (x := (vp_nar .byte (111 : Int32))) (by decide +kernel) (by decide +kernel) rfl).trans ?_
  refine (z_w (T := Tm16) (z := b0 + 64 + 7) (V := Vm61) (V2 := Vm62) (q := 6) (k := 10) (n := 144) (a := (44 : Int32)) (x := (vp_nar .byte (119 : Int32))) (by decide +kernel) (by decide +kernel) rfl).trans ?_
  refine (z_w (T := Tm16) (z := b0 + 64 + 7) (V := Vm62) (V2 := Vm63) (q := 6) (k := 10) (n := 144) (a := (45 : Int32)) (x := (vp_nar .byte (32 : Int32))) (by decide +kernel) (by decide +kernel) rfl).trans ?_
  refine (z_w (T := Tm16) (z := b0 + 64 + 7) (V := Vm63) (V2 := Vm64) (q := 6) (k := 10) (n := 144) (a := (46 : Int32)) (x := (vp_nar .byte (99 : Int32))) (by decide +kernel) (by decide +kernel) rfl).trans ?_
  refine (z_w (T := Tm16) (z := b0 + 64 + 7) (V := Vm64) (V2 := Vm65) (q := 6) (k := 10) (n := 144) (a := (47 : Int32)) (x := (vp_nar .byte (111 : Int32))) (by decide +kernel) (by decide +kernel) rfl).trans ?_
  refine (z_w (T := Tm16) (z := b0 + 64 + 7) (V := Vm65) (V2 := Vm66) (q := 6) (k := 10) (n := 144) (a := (48 : Int32)) (x := (vp_nar .byte (108 : Int32))) (by decide +kernel) (by decide +kernel) rfl).trans ?_
  refine (z_w (T := Tm16) (z := b0 + 64 + 7) (V := Vm66) (V2 := Vm67) (q := 6) (k := 10) (n := 144) (a := (49 : Int32)) (x := (vp_nar .byte (117 : Int32))) (by decide +kernel) (by decide +kernel) rfl).trans ?_
  refine (z_w (T := Tm16) (z := b0 + 64 + 7) (V := Vm67) (V2 := Vm68) (q := 6) (k := 10) (n := 144) (a := (50 : Int32)) (x := (vp_nar .byte (109 : Int32))) (by decide +kernel) (by decide +kernel) rfl).trans ?_
  refine (z_w (T := Tm16) (z := b0 + 64 + 7) (V := Vm68) (V2 := Vm69) (q := 6) (k := 10) (n := 144) (a := (51 : Int32)) (x := (vp_nar .byte (110 : Int32))) (by decide +kernel) (by decide +kernel) rfl).trans ?_
  refine (z_w (T := Tm16) (z := b0 + 64 + 7) (V := Vm69) (V2 := Vm70) (q := 6) (k := 10) (n := 144) (a := (52 : Int32)) (x := (vp_nar .byte (32 : Int32))) (by decide +kernel) (by decide +kernel) rfl).trans ?_
  refine (z_w (T := Tm16) (z := b0 + 64 + 7) (V := Vm70) (V2 := Vm71) (q := 6) (k := 10) (n := 144) (a := (53 : Int32)) (x := (vp_nar .byte (99 : Int32))) (by decide +kernel) (by decide +kernel) rfl).trans ?_
  refine (z_w (T := Tm16) (z := b0 + 64 + 7) (V := Vm71) (V2 := Vm72) (q := 6) (k := 10) (n := 144) (a := (54 : Int32)) (x := (vp_nar .byte (108 : Int32))) (by decide +kernel) (by decide +kernel) rfl).trans ?_
  refine (z_w (T := Tm16) (z := b0 + 64 + 7) (V := Vm72) (V2 := Vm73) (q := 6) (k := 10) (n := 144) (a := (55 : Int32)) (x := (vp_nar .byte (101 : Int32))) (by decide +kernel) (by decide +kernel) rfl).trans ?_
  refine (z_w (T := Tm16) (z := b0 + 64 + 7) (V := Vm73) (V2 := Vm74) (q := 6) (k := 10) (n := 144) (a := (56 : Int32)) (x := (vp_nar .byte (114 : Int32))) (by decide +kernel) (by decide +kernel) rfl).trans ?_
  refine (z_w (T := Tm16) (z := b0 + 64 + 7) (V := Vm74) (V2 := Vm75) (q := 6) (k := 10) (n := 144) (a := (57 : Int32)) (x := (vp_nar .byte (107 : Int32))) (by decide +kernel) (by decide +kernel) rfl).trans ?_
  refine (z_w (T := Tm16) (z := b0 + 64 + 7) (V := Vm75) (V2 := Vm76) (q := 6) (k := 10) (n := 144) (a := (58 : Int32)) (x := (vp_nar .byte (32 : Int32))) (by decide +kernel) (by decide +kernel) rfl).trans ?_
  refine (z_w (T := Tm16) (z := b0 + 64 + 7) (V := Vm76) (V2 := Vm77) (q := 6) (k := 10) (n := 144) (a := (59 : Int32)) (x := (vp_nar .byte (107 : Int32))) (by decide +kernel) (by decide +kernel) rfl).trans ?_
  refine (z_w (T := Tm16) (z := b0 + 64 + 7) (V := Vm77) (V2 := Vm78) (q := 6) (k := 10) (n := 144) (a := (60 : Int32)) (x := (vp_nar .byte (101 : Int32))) (by decide +kernel) (by decide +kernel) rfl).trans ?_
  refine (z_w (T := Tm16) (z := b0 + 64 + 7) (V := Vm78) (V2 := Vm79) (q := 6) (k := 10) (n := 144) (a := (61 : Int32)) (x := (vp_nar .byte (101 : Int32))) (by decide +kernel) (by decide +kernel) rfl).trans ?_
  refine (z_w (T := Tm16) (z := b0 + 64 + 7) (V := Vm79) (V2 := Vm80) (q := 6) (k := 10) (n := 144) (a := (62 : Int32)) (x := (vp_nar .byte (110 : Int32))) (by decide +kernel) (by decide +kernel) rfl).trans ?_
  refine (z_w (T := Tm16) (z := b0 + 64 + 7) (V := Vm80) (V2 := Vm81) (q := 6) (k := 10) (n := 144) (a := (63 : Int32)) (x := (vp_nar .byte (32 : Int32))) (by decide +kernel) (by decide +kernel) rfl).trans ?_
  refine (z_w (T := Tm16) (z := b0 + 64 + 7) (V := Vm81) (V2 := Vm82) (q := 6) (k := 10) (n := 144) (a := (64 : Int32)) (x := (vp_nar .byte (109 : Int32))) (by decide +kernel) (by decide +kernel) rfl).trans ?_
  refine (z_w (T := Tm16) (z := b0 + 64 + 7) (V := Vm82) (V2 := Vm83) (q := 6) (k := 10) (n := 144) (a := (65 : Int32)) (x := (vp_nar .byte (111 : Int32))) (by decide +kernel) (by decide +kernel) rfl).trans ?_
  refine (z_w (T := Tm16) (z := b0 + 64 + 7) (V := Vm83) (V2 := Vm84) (q := 6) (k := 10) (n := 144) (a := (66 : Int32)) (x := (vp_nar .byte (111 : Int32))) (by decide +kernel) (by decide +kernel) rfl).trans ?_
  refine (z_w (T := Tm16) (z := b0 + 64 + 7) (V := Vm84) (V2 := Vm85) (q := 6) (k := 10) (n := 144) (a := (67 : Int32)) (x := (vp_nar .byte (100 : Int32))) (by decide +kernel) (by decide +kernel) rfl).trans ?_
  refine (z_w (T := Tm16) (z := b0 + 64 + 7) (V := Vm85) (V2 := Vm86) (q := 6) (k := 10) (n := 144) (a := (68 : Int32)) (x := (vp_nar .byte (32 : Int32))) (by decide +kernel) (by decide +kernel) rfl).trans ?_
  refine (z_w (T := Tm16) (z := b0 + 64 + 7) (V := Vm86) (V2 := Vm87) (q := 6) (k := 10) (n := 144) (a := (69 : Int32)) (x := (vp_nar .byte (101 : Int32))) (by decide +kernel) (by decide +kernel) rfl).trans ?_
  refine (z_w (T := Tm16) (z := b0 + 64 + 7) (V := Vm87) (V2 := Vm88) (q := 6) (k := 10) (n := 144) (a := (70 : Int32)) (x := (vp_nar .byte (110 : Int32))) (by decide +kernel) (by decide +kernel) rfl).trans ?_
  refine (z_w (T := Tm16) (z := b0 + 64 + 7) (V := Vm88) (V2 := Vm89) (q := 6) (k := 10) (n := 144) (a := (71 : Int32)) (x := (vp_nar .byte (116 : Int32))) (by decide +kernel) (by decide +kernel) rfl).trans ?_
  refine (z_w (T := Tm16) (z := b0 + 64 + 7) (V := Vm89) (V2 := Vm90) (q := 6) (k := 10) (n := 144) (a := (72 : Int32)) (x := (vp_nar .byte (114 : Int32))) (by decide +kernel) (by decide +kernel) rfl).trans ?_
  refine (z_w (T := Tm16) (z := b0 + 64 + 7) (V := Vm90) (V2 := Vm91) (q := 6) (k := 10) (n := 144) (a := (73 : Int32)) (x := (vp_nar .byte (121 : Int32))) (by decide +kernel) (by decide +kernel) rfl).trans ?_
  refine (z_w (T := Tm16) (z := b0 + 64 + 7) (V := Vm91) (V2 := Vm92) (q := 6) (k := 10) (n := 144) (a := (74 : Int32)) (x := (vp_nar .byte (32 : Int32))) (by decide +kernel) (by decide +kernel) rfl).trans ?_
  refine (z_w (T := Tm16) (z := b0 + 64 + 7) (V := Vm92) (V2 := Vm93) (q := 6) (k := 10) (n := 144) (a := (75 : Int32)) (x := (vp_nar .byte (111 : Int32))) (by decide +kernel) (by decide +kernel) rfl).trans ?_
  refine (z_w (T := Tm16) (z := b0 + 64 + 7) (V := Vm93) (V2 := Vm94) (q := 6) (k := 10) (n := 144) (a := (76 : Int32)) (x := (vp_nar .byte (102 : Int32))) (by decide +kernel) (by decide +kernel) rfl).trans ?_
  refine (z_w (T := Tm16) (z := b0 + 64 + 7) (V := Vm94) (V2 := Vm95) (q := 6) (k := 10) (n := 144) (a := (77 : Int32)) (x := (vp_nar .byte (102 : Int32))) (by decide +kernel) (by decide +kernel) rfl).trans ?_
  refine (z_w (T := Tm16) (z := b0 + 64 + 7) (V := Vm95) (V2 := Vm96) (q := 6) (k := 10) (n := 144) (a := (78 : Int32)) (x := (vp_nar .byte (32 : Int32))) (by decide +kernel) (by decide +kernel) rfl).trans ?_
  refine (z_w (T := Tm16) (z := b0 + 64 + 7) (V := Vm96) (V2 := Vm97) (q := 6) (k := 10) (n := 144) (a := (79 : Int32)) (x := (vp_nar .byte (97 : Int32))) (by decide +kernel) (by decide +kernel) rfl).trans ?_
  refine (z_w (T := Tm16) (z := b0 + 64 + 7) (V := Vm97) (V2 := Vm98) (q := 6) (k := 10) (n := 144) (a := (80 : Int32)) (x := (vp_nar .byte (99 : Int32))) (by decide +kernel) (by decide +kernel) rfl).trans ?_
  refine (z_w (T := Tm16) (z := b0 + 64 + 7) (V := Vm98) (V2 := Vm99) (q := 6) (k := 10) (n := 144) (a := (81 : Int32)) (x := (vp_nar .byte (114 : Int32))) (by decide +kernel) (by decide +kernel) rfl).trans ?_
  refine (z_w (T := Tm16) (z := b0 + 64 + 7) (V := Vm99) (V2 := Vm100) (q := 6) (k := 10) (n := 144) (a := (82 : Int32)) (x := (vp_nar .byte (111 : Int32))) (by decide +kernel) (by decide +kernel) rfl).trans ?_
  refine (z_w (T := Tm16) (z := b0 + 64 + 7) (V := Vm100) (V2 := Vm101) (q := 6) (k := 10) (n := 144) (a := (83 : Int32)) (x := (vp_nar .byte (115 : Int32))) (by decide +kernel) (by decide +kernel) rfl).trans ?_
  refine (z_w (T := Tm16) (z := b0 + 64 + 7) (V := Vm101) (V2 := Vm102) (q := 6) (k := 10) (n := 144) (a := (84 : Int32)) (x := (vp_nar .byte (115 : Int32))) (by decide +kernel) (by decide +kernel) rfl).trans ?_
  refine (z_w (T := Tm16) (z := b0 + 64 + 7) (V := Vm102) (V2 := Vm103) (q := 6) (k := 10) (n := 144) (a := (85 : Int32)) (x := (vp_nar .byte (32 : Int32))) (by decide +kernel) (by decide +kernel) rfl).trans ?_
  refine (z_w (T := Tm16) (z := b0 + 64 + 7) (V := Vm103) (V2 := Vm104) (q := 6) (k := 10) (n := 144) (a := (86 : Int32)) (x := (vp_nar .byte (100 : Int32))) (by decide +kernel) (by decide +kernel) rfl).trans ?_
  refine (z_w (T := Tm16) (z := b0 + 64 + 7) (V := Vm104) (V2 := Vm105) (q := 6) (k := 10) (n := 144) (a := (87 : Int32)) (x := (vp_nar .byte (97 : Int32))) (by decide +kernel) (by decide +kernel) rfl).trans ?_
  refine (z_w (T := Tm16) (z := b0 + 64 + 7) (V := Vm105) (V2 := Vm106) (q := 6) (k := 10) (n := 144) (a := (88 : Int32)) (x := (vp_nar .byte (121 : Int32))) (by decide +kernel) (by decide +kernel) rfl).trans ?_
  refine (z_w (T := Tm16) (z := b0 + 64 + 7) (V := Vm106) (V2 := Vm107) (q := 6) (k := 10) (n := 144) (a := (89 : Int32)) (x := (vp_nar .byte (32 : Int32))) (by decide +kernel) (by decide +kernel) rfl).trans ?_
  refine (z_w (T := Tm16) (z := b0 + 64 + 7) (V := Vm107) (V2 := Vm108) (q := 6) (k := 10) (n := 144) (a := (90 : Int32)) (x := (vp_nar .byte (100 : Int32))) (by decide +kernel) (by decide +kernel) rfl).trans ?_
  refine (z_w (T := Tm16) (z := b0 + 64 + 7) (V := Vm108) (V2 := Vm109) (q := 6) (k := 10) (n := 144) (a := (91 : Int32)) (x := (vp_nar .byte (111 : Int32))) (by decide +kernel) (by decide +kernel) rfl).trans ?_
  refine (z_w (T := Tm16) (z := b0 + 64 + 7) (V := Vm109) (V2 := Vm110) (q := 6) (k := 10) (n := 144) (a := (92 : Int32)) (x := (vp_nar .byte (110 : Int32))) (by decide +kernel) (by decide +kernel) rfl).trans ?_
  refine (z_w (T := Tm16) (z := b0 + 64 + 7) (V := Vm110) (V2 := Vm111) (q := 6) (k := 10) (n := 144) (a := (93 : Int32)) (x := (vp_nar .byte (101 : Int32))) (by decide +kernel) (by decide +kernel) rfl).trans ?_
  refine (z_w (T := Tm16) (z := b0 + 64 + 7) (V := Vm111) (V2 := Vm112) (q := 6) (k := 10) (n := 144) (a := (94 : Int32)) (x := (vp_nar .byte (32 : Int32))) (by decide +kernel) (by decide +kernel) rfl).trans ?_
  refine (z_w (T := Tm16) (z := b0 + 64 + 7) (V := Vm112) (V2 := Vm113) (q := 6) (k := 10) (n := 144) (a := (95 : Int32)) (x := (vp_nar .byte (108 : Int32))) (by decide +kernel) (by decide +kernel) rfl).trans ?_
  refine (z_w (T := Tm16) (z := b0 + 64 + 7) (V := Vm113) (V2 := Vm114) (q := 6) (k := 10) (n := 144) (a := (96 : Int32)) (x := (vp_nar .byte (97 : Int32))) (by decide +kernel) (by decide +kernel) rfl).trans ?_
  refine (z_w (T := Tm16) (z := b0 + 64 + 7) (V := Vm114) (V2 := Vm115) (q := 6) (k := 10) (n := 144) (a := (97 : Int32)) (x := (vp_nar .byte (116 : Int32))) (by decide +kernel) (by decide +kernel) rfl).trans ?_
  refine (z_w (T := Tm16) (z := b0 + 64 + 7) (V := Vm115) (V2 := Vm116) (q := 6) (k := 10) (n := 144) (a := (98 : Int32)) (x := (vp_nar .byte (101 : Int32))) (by decide +kernel) (by decide +kernel) rfl).trans ?_
  refine (z_w (T := Tm16) (z := b0 + 64 + 7) (V := Vm116) (V2 := Vm117) (q := 6) (k := 10) (n := 144) (a := (99 : Int32)) (x := (vp_nar .byte (115 : Int32))) (by decide +kernel) (by decide +kernel) rfl).trans ?_
  refine (z_w (T := Tm16) (z := b0 + 64 + 7) (V := Vm117) (V2 := Vm118) (q := 6) (k := 10) (n := 144) (a := (100 : Int32)) (x := (vp_nar .byte (116 : Int32))) (by decide +kernel) (by decide +kernel) rfl).trans ?_
  refine (z_w (T := Tm16) (z := b0 + 64 + 7) (V := Vm118) (V2 := Vm119) (q := 6) (k := 10) (n := 144) (a := (101 : Int32)) (x := (vp_nar .byte (32 : Int32))) (by decide +kernel) (by decide +kernel) rfl).trans ?_
  refine (z_w (T := Tm16) (z := b0 + 64 + 7) (V := Vm119) (V2 := Vm120) (q := 6) (k := 10) (n := 144) (a := (102 : Int32)) (x := (vp_nar .byte (104 : Int32))) (by decide +kernel) (by decide +kernel) rfl).trans ?_
  refine (z_w (T := Tm16) (z := b0 + 64 + 7) (V := Vm120) (V2 := Vm121) (q := 6) (k := 10) (n := 144) (a := (103 : Int32)) (x := (vp_nar .byte (97 : Int32))) (by decide +kernel) (by decide +kernel) rfl).trans ?_
  refine (z_w (T := Tm16) (z := b0 + 64 + 7) (V := Vm121) (V2 := Vm122) (q := 6) (k := 10) (n := 144) (a := (104 : Int32)) (x := (vp_nar .byte (110 : Int32))) (by decide +kernel) (by decide +kernel) rfl).trans ?_
  refine (z_w (T := Tm16) (z := b0 + 64 + 7) (V := Vm122) (V2 := Vm123) (q := 6) (k := 10) (n := 144) (a := (105 : Int32)) (x := (vp_nar .byte (100 : Int32))) (by decide +kernel) (by decide +kernel) rfl).trans ?_
  refine (z_w (T := Tm16) (z := b0 + 64 + 7) (V := Vm123) (V2 := Vm124) (q := 6) (k := 10) (n := 144) (a := (106 : Int32)) (x := (vp_nar .byte (32 : Int32))) (by decide +kernel) (by decide +kernel) rfl).trans ?_
  refine (z_w (T := Tm16) (z := b0 + 64 + 7) (V := Vm124) (V2 := Vm125) (q := 6) (k := 10) (n := 144) (a := (107 : Int32)) (x := (vp_nar .byte (116 : Int32))) (by decide +kernel) (by decide +kernel) rfl).trans ?_
  refine (z_w (T := Tm16) (z := b0 + 64 + 7) (V := Vm125) (V2 := Vm126) (q := 6) (k := 10) (n := 144) (a := (108 : Int32)) (x := (vp_nar .byte (97 : Int32))) (by decide +kernel) (by decide +kernel) rfl).trans ?_
  refine (z_w (T := Tm16) (z := b0 + 64 + 7) (V := Vm126) (V2 := Vm127) (q := 6) (k := 10) (n := 144) (a := (109 : Int32)) (x := (vp_nar .byte (107 : Int32))) (by decide +kernel) (by decide +kernel) rfl).trans ?_
  refine (z_w (T := Tm16) (z := b0 + 64 + 7) (V := Vm127) (V2 := Vm128) (q := 6) (k := 10) (n := 144) (a := (110 : Int32)) (x := (vp_nar .byte (101 : Int32))) (by decide +kernel) (by decide +kernel) rfl).trans ?_
  refine (z_w (T := Tm16) (z := b0 + 64 + 7) (V := Vm128) (V2 := Vm129) (q := 6) (k := 10) (n := 144) (a := (111 : Int32)) (x := (vp_nar .byte (32 : Int32))) (by decide +kernel) (by decide +kernel) rfl).trans ?_
  refine (z_w (T := Tm16) (z := b0 + 64 + 7) (V := Vm129) (V2 := Vm130) (q := 6) (k := 10) (n := 144) (a := (112 : Int32)) (x := (vp_nar .byte (98 : Int32))) (by decide +kernel) (by decide +kernel) rfl).trans ?_
  refine (z_w (T := Tm16) (z := b0 + 64 + 7) (V := Vm130) (V2 := Vm131) (q := 6) (k := 10) (n := 144) (a := (113 : Int32)) (x := (vp_nar .byte (121 : Int32))) (by decide +kernel) (by decide +kernel) rfl).trans ?_
  refine (z_w (T := Tm16) (z := b0 + 64 + 7) (V := Vm131) (V2 := Vm132) (q := 6) (k := 10) (n := 144) (a := (114 : Int32)) (x := (vp_nar .byte (32 : Int32))) (by decide +kernel) (by decide +kernel) rfl).trans ?_
  refine (z_w (T := Tm16) (z := b0 + 64 + 7) (V := Vm132) (V2 := Vm133) (q := 6) (k := 10) (n := 144) (a := (115 : Int32)) (x := (vp_nar .byte (115 : Int32))) (by decide +kernel) (by decide +kernel) rfl).trans ?_
  refine (z_w (T := Tm16) (z := b0 + 64 + 7) (V := Vm133) (V2 := Vm134) (q := 6) (k := 10) (n := 144) (a := (116 : Int32)) (x := (vp_nar .byte (104 : Int32))) (by decide +kernel) (by decide +kernel) rfl).trans ?_
  refine (z_w (T := Tm16) (z := b0 + 64 + 7) (V := Vm134) (V2 := Vm135) (q := 6) (k := 10) (n := 144) (a := (117 : Int32)) (x := (vp_nar .byte (105 : Int32))) (by decide +kernel) (by decide +kernel) rfl).trans ?_
  refine (z_w (T := Tm16) (z := b0 + 64 + 7) (V := Vm135) (V2 := Vm136) (q := 6) (k := 10) (n := 144) (a := (118 : Int32)) (x := (vp_nar .byte (102 : Int32))) (by decide +kernel) (by decide +kernel) rfl).trans ?_
  refine (z_w (T := Tm16) (z := b0 + 64 + 7) (V := Vm136) (V2 := Vm137) (q := 6) (k := 10) (n := 144) (a := (119 : Int32)) (x := (vp_nar .byte (116 : Int32))) (by decide +kernel) (by decide +kernel) rfl).trans ?_
  refine (z_w (T := Tm16) (z := b0 + 64 + 7) (V := Vm137) (V2 := Vm138) (q := 6) (k := 10) (n := 144) (a := (120 : Int32)) (x := (vp_nar .byte (32 : Int32))) (by decide +kernel) (by decide +kernel) rfl).trans ?_
  refine (z_w (T := Tm16) (z := b0 + 64 + 7) (V := Vm138) (V2 := Vm139) (q := 6) (k := 10) (n := 144) (a := (121 : Int32)) (x := (vp_nar .byte (116 : Int32))) (by decide +kernel) (by decide +kernel) rfl).trans ?_
  refine (z_w (T := Tm16) (z := b0 + 64 + 7) (V := Vm139) (V2 := Vm140) (q := 6) (k := 10) (n := 144) (a := (122 : Int32)) (x := (vp_nar .byte (111 : Int32))) (by decide +kernel) (by decide +kernel) rfl).trans ?_
  refine (z_w (T := Tm16) (z := b0 + 64 + 7) (V := Vm140) (V2 := Vm141) (q := 6) (k := 10) (n := 144) (a := (123 : Int32)) (x := (vp_nar .byte (32 : Int32))) (by decide +kernel) (by decide +kernel) rfl).trans ?_
  refine (z_w (T := Tm16) (z := b0 + 64 + 7) (V := Vm141) (V2 := Vm142) (q := 6) (k := 10) (n := 144) (a := (124 : Int32)) (x := (vp_nar .byte (111 : Int32))) (by decide +kernel) (by decide +kernel) rfl).trans ?_
  refine (z_w (T := Tm16) (z := b0 + 64 + 7) (V := Vm142) (V2 := Vm143) (q := 6) (k := 10) (n := 144) (a := (125 : Int32)) (x := (vp_nar .byte (102 : Int32))) (by decide +kernel) (by decide +kernel) rfl).trans ?_
  refine (z_w (T := Tm16) (z := b0 + 64 + 7) (V := Vm143) (V2 := Vm144) (q := 6) (k := 10) (n := 144) (a := (126 : Int32)) (x := (vp_nar .byte (32 : Int32))) (by decide +kernel) (by decide +kernel) rfl).trans ?_
  refine (z_w (T := Tm16) (z := b0 + 64 + 7) (V := Vm144) (V2 := Vm145) (q := 6) (k := 10) (n := 144) (a := (127 : Int32)) (x := (vp_nar .byte (102 : Int32))) (by decide +kernel) (by decide +kernel) rfl).trans ?_
  refine (z_w (T := Tm16) (z := b0 + 64 + 7) (V := Vm145) (V2 := Vm146) (q := 6) (k := 10) (n := 144) (a := (128 : Int32)) (x := (vp_nar .byte (101 : Int32))) (by decide +kernel) (by decide +kernel) rfl).trans ?_
  refine (z_w (T := Tm16) (z := b0 + 64 + 7) (V := Vm146) (V2 := Vm147) (q := 6) (k := 10) (n := 144) (a := (129 : Int32)) (x := (vp_nar .byte (110 : Int32))) (by decide +kernel) (by decide +kernel) rfl).trans ?_
  refine (z_w (T := Tm16) (z := b0 + 64 + 7) (V := Vm147) (V2 := Vm148) (q := 6) (k := 10) (n := 144) (a := (130 : Int32)) (x := (vp_nar .byte (99 : Int32))) (by decide +kernel) (by decide +kernel) rfl).trans ?_
  refine (z_w (T := Tm16) (z := b0 + 64 + 7) (V := Vm148) (V2 := Vm149) (q := 6) (k := 10) (n := 144) (a := (131 : Int32)) (x := (vp_nar .byte (101 : Int32))) (by decide +kernel) (by decide +kernel) rfl).trans ?_
  refine (z_w (T := Tm16) (z := b0 + 64 + 7) (V := Vm149) (V2 := Vm150) (q := 6) (k := 10) (n := 144) (a := (132 : Int32)) (x := (vp_nar .byte (32 : Int32))) (by decide +kernel) (by decide +kernel) rfl).trans ?_
  refine (z_w (T := Tm16) (z := b0 + 64 + 7) (V := Vm150) (V2 := Vm151) (q := 6) (k := 10) (n := 144) (a := (133 : Int32)) (x := (vp_nar .byte (112 : Int32))) (by decide +kernel) (by decide +kernel) rfl).trans ?_
  refine (z_w (T := Tm16) (z := b0 + 64 + 7) (V := Vm151) (V2 := Vm152) (q := 6) (k := 10) (n := 144) (a := (134 : Int32)) (x := (vp_nar .byte (97 : Int32))) (by decide +kernel) (by decide +kernel) rfl).trans ?_
  refine (z_w (T := Tm16) (z := b0 + 64 + 7) (V := Vm152) (V2 := Vm153) (q := 6) (k := 10) (n := 144) (a := (135 : Int32)) (x := (vp_nar .byte (115 : Int32))) (by decide +kernel) (by decide +kernel) rfl).trans ?_
  refine (z_w (T := Tm16) (z := b0 + 64 + 7) (V := Vm153) (V2 := Vm154) (q := 6) (k := 10) (n := 144) (a := (136 : Int32)) (x := (vp_nar .byte (115 : Int32))) (by decide +kernel) (by decide +kernel) rfl).trans ?_
  refine (z_w (T := Tm16) (z := b0 + 64 + 7) (V := Vm154) (V2 := Vm155) (q := 6) (k := 10) (n := 144) (a := (137 : Int32)) (x := (vp_nar .byte (32 : Int32))) (by decide +kernel) (by decide +kernel) rfl).trans ?_
  refine (z_w (T := Tm16) (z := b0 + 64 + 7) (V := Vm155) (V2 := Vm156) (q := 6) (k := 10) (n := 144) (a := (138 : Int32)) (x := (vp_nar .byte (116 : Int32))) (by decide +kernel) (by decide +kernel) rfl).trans ?_
  refine (z_w (T := Tm16) (z := b0 + 64 + 7) (V := Vm156) (V2 := Vm157) (q := 6) (k := 10) (n := 144) (a := (139 : Int32)) (x := (vp_nar .byte (105 : Int32))) (by decide +kernel) (by decide +kernel) rfl).trans ?_
  refine (z_w (T := Tm16) (z := b0 + 64 + 7) (V := Vm157) (V2 := Vm158) (q := 6) (k := 10) (n := 144) (a := (140 : Int32)) (x := (vp_nar .byte (109 : Int32))) (by decide +kernel) (by decide +kernel) rfl).trans ?_
  refine (z_w (T := Tm16) (z := b0 + 64 + 7) (V := Vm158) (V2 := Vm159) (q := 6) (k := 10) (n := 144) (a := (141 : Int32)) (x := (vp_nar .byte (101 : Int32))) (by decide +kernel) (by decide +kernel) rfl).trans ?_
  refine (z_w (T := Tm16) (z := b0 + 64 + 7) (V := Vm159) (V2 := Vm160) (q := 6) (k := 10) (n := 144) (a := (142 : Int32)) (x := (vp_nar .byte (115 : Int32))) (by decide +kernel) (by decide +kernel) rfl).trans ?_
  refine (z_w (T := Tm16) (z := b0 + 64 + 7) (V := Vm160) (V2 := Vm161) (q := 6) (k := 10) (n := 144) (a := (143 : Int32)) (x := (vp_nar .byte (32 : Int32))) (by decide +kernel) (by decide +kernel) rfl).trans ?_
  refine (z_P (T := Tm16) (T2 := Tm162) (z := b0 + 64 + 7) (o := 0) (j := 7) (ci := 9) (q := 6 + 1) (by decide +kernel) rfl).trans ?_
  refine (z_arr (ad := adM b0) (B := b0 + 64) (T := Tm162) (T1 := Tm163) (T2 := Tm164) (V := Vm161) (V2 := Vm165) (o := 0) (j := 11) (k := 10) (n := 400) (ci := 9) (n0 := 7) (n1 := 8) rfl rfl rfl rfl rfl rfl (by decide +kernel)).trans ?_
  refine (z_arr (ad := adM b0) (B := b0 + 64) (T := Tm164) (T1 := Tm166) (T2 := Tm167) (V := Vm165) (V2 := Vm168) (o := 0) (j := 12) (k := 11) (n := 5) (ci := 9) (n0 := 8) (n1 := 9) rfl rfl rfl rfl rfl rfl (by decide +kernel)).trans ?_
  refine (z_F (T := Tm167) (z := b0 + 64 + 9) (V := Vm168) (V2 := Vm169) (o := 0) (j := 14) (ci := 9) (x := (-1 : Int32)) (by decide +kernel) rfl).trans ?_
  refine (z_arr (ad := adM b0) (B := b0 + 64) (T := Tm167) (T1 := Tm170) (T2 := Tm171) (V := Vm169) (V2 := Vm172) (o := 0) (j := 15) (k := 11) (n := 401) (ci := 9) (n0 := 9) (n1 := 10) rfl rfl rfl rfl rfl rfl (by decide +kernel)).trans ?_
  refine (z_arr (ad := adM b0) (B := b0 + 64) (T := Tm171) (T1 := Tm173) (T2 := Tm174) (V := Vm172) (V2 := Vm175) (o := 0) (j := 16) (k := 11) (n := 401) (ci := 9) (n0 := 10) (n1 := 11) rfl rfl rfl rfl rfl rfl (by decide +kernel)).trans ?_
  refine (z_arr (ad := adM b0) (B := b0 + 64) (T := Tm174) (T1 := Tm176) (T2 := Tm177) (V := Vm175) (V2 := Vm178) (o := 0) (j := 17) (k := 11) (n := 401) (ci := 9) (n0 := 11) (n1 := 12) rfl rfl rfl rfl rfl rfl (by decide +kernel)).trans ?_
  refine (z_arr (ad := adM b0) (B := b0 + 64) (T := Tm177) (T1 := Tm179) (T2 := Tm180) (V := Vm178) (V2 := Vm181) (o := 0) (j := 26) (k := 11) (n := 10) (ci := 9) (n0 := 12) (n1 := 13) rfl rfl rfl rfl rfl rfl (by decide +kernel)).trans ?_
  refine (z_arr (ad := adM b0) (B := b0 + 64) (T := Tm180) (T1 := Tm182) (T2 := Tm183) (V := Vm181) (V2 := Vm184) (o := 0) (j := 29) (k := 11) (n := 528) (ci := 9) (n0 := 13) (n1 := 14) rfl rfl rfl rfl rfl rfl (by decide +kernel)).trans ?_
  refine (z_arr (ad := adM b0) (B := b0 + 64) (T := Tm183) (T1 := Tm185) (T2 := Tm186) (V := Vm184) (V2 := Vm187) (o := 0) (j := 30) (k := 11) (n := 528) (ci := 9) (n0 := 14) (n1 := 15) rfl rfl rfl rfl rfl rfl (by decide +kernel)).trans ?_
  refine (z_arr (ad := adM b0) (B := b0 + 64) (T := Tm186) (T1 := Tm188) (T2 := Tm189) (V := Vm187) (V2 := Vm190) (o := 0) (j := 32) (k := 11) (n := 10) (ci := 9) (n0 := 15) (n1 := 16) rfl rfl rfl rfl rfl rfl (by decide +kernel)).trans ?_
  refine (z_arr (ad := adM b0) (B := b0 + 64) (T := Tm189) (T1 := Tm191) (T2 := Tm192) (V := Vm190) (V2 := Vm193) (o := 0) (j := 33) (k := 11) (n := 1024) (ci := 9) (n0 := 16) (n1 := 17) rfl rfl rfl rfl rfl rfl (by decide +kernel)).trans ?_
  refine (z_arr (ad := adM b0) (B := b0 + 64) (T := Tm192) (T1 := Tm194) (T2 := Tm195) (V := Vm193) (V2 := Vm196) (o := 0) (j := 34) (k := 11) (n := 1024) (ci := 9) (n0 := 17) (n1 := 18) rfl rfl rfl rfl rfl rfl (by decide +kernel)).trans ?_
  refine (z_arr (ad := adM b0) (B := b0 + 64) (T := Tm195) (T1 := Tm197) (T2 := Tm198) (V := Vm196) (V2 := Vm199) (o := 0) (j := 35) (k := 11) (n := 26) (ci := 9) (n0 := 18) (n1 := 19) rfl rfl rfl rfl rfl rfl (by decide +kernel)).trans ?_
  refine (z_arr (ad := adM b0) (B := b0 + 64) (T := Tm198) (T1 := Tm200) (T2 := Tm201) (V := Vm199) (V2 := Vm202) (o := 0) (j := 36) (k := 11) (n := 150) (ci := 9) (n0 := 19) (n1 := 20) rfl rfl rfl rfl rfl rfl (by decide +kernel)).trans ?_
  refine (z_arr (ad := adM b0) (B := b0 + 64) (T := Tm201) (T1 := Tm203) (T2 := Tm204) (V := Vm202) (V2 := Vm205) (o := 0) (j := 37) (k := 11) (n := 26) (ci := 9) (n0 := 20) (n1 := 21) rfl rfl rfl rfl rfl rfl (by decide +kernel)).trans ?_
  refine (z_arr (ad := adM b0) (B := b0 + 64) (T := Tm204) (T1 := Tm206) (T2 := Tm207) (V := Vm205) (V2 := Vm208) (o := 0) (j := 38) (k := 11) (n := 32) (ci := 9) (n0 := 21) (n1 := 22) rfl rfl rfl rfl rfl rfl (by decide +kernel)).trans ?_
  refine (z_arr (ad := adM b0) (B := b0 + 64) (T := Tm207) (T1 := Tm209) (T2 := Tm210) (V := Vm208) (V2 := Vm211) (o := 0) (j := 39) (k := 12) (n := 21) (ci := 9) (n0 := 22) (n1 := 23) rfl rfl rfl rfl rfl rfl (by decide +kernel)).trans ?_
  refine (z_F (T := Tm210) (z := b0 + 64 + 23) (V := Vm211) (V2 := Vm212) (o := 0) (j := 40) (ci := 9) (x := (-1 : Int32)) (by decide +kernel) rfl).trans ?_
  refine (z_arr (ad := adM b0) (B := b0 + 64) (T := Tm210) (T1 := Tm213) (T2 := Tm214) (V := Vm212) (V2 := Vm215) (o := 0) (j := 46) (k := 12) (n := 3) (ci := 9) (n0 := 23) (n1 := 24) rfl rfl rfl rfl rfl rfl (by decide +kernel)).trans ?_
  refine (z_arr (ad := adM b0) (B := b0 + 64) (T := Tm214) (T1 := Tm216) (T2 := Tm217) (V := Vm215) (V2 := Vm218) (o := 0) (j := 47) (k := 11) (n := 32) (ci := 9) (n0 := 24) (n1 := 25) rfl rfl rfl rfl rfl rfl (by decide +kernel)).trans ?_
  refine (z_F (T := Tm217) (z := b0 + 64 + 25) (V := Vm218) (V2 := Vm219) (o := 0) (j := 48) (ci := 9) (x := (-1 : Int32)) (by decide +kernel) rfl).trans ?_
  refine (z_Q (T := Tm217) (z := b0 + 64 + 25) (o := 0) (j := 2) (ci := 9) (q := 2 + 1) (by decide +kernel) (by decide +kernel)).trans ?_
  refine (z_w (T := Tm217) (z := b0 + 64 + 25) (V := Vm219) (V2 := Vm220) (q := 2) (k := 11) (n := 5715) (a := (101 : Int32)) (x := (1 : Int32)) (by decide +kernel) (by decide +kernel) rfl).trans ?_
  refine (z_Q (T := Tm217) (z := b0 + 64 + 25) (o := 0) (j := 2) (ci := 9) (q := 2 + 1) (by decide +kernel) (by decide +kernel)).trans ?_
  refine (z_w (T := Tm217) (z := b0 + 64 + 25) (V := Vm220) (V2 := Vm221) (q := 2) (k := 11) (n := 5715) (a := (107 : Int32)) (x := (-1 : Int32)) (by decide +kernel) (by decide +kernel) rfl).trans ?_
  rfl
def TsM : St := Tm217
def VsM : Vt := Vm221
theorem QTsM : Zp TsM := QTm217
end
