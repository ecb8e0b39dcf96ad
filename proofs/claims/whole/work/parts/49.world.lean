/-! THE WORLD after both constructors: its shapes; views; what both sides have in common. -/
def SH0 : List SE := [(0, 19, [none, none, none, some 1, some 2, some 4, some 13, some 16, some 20, none, some 21, some 31, some 36, some 46, some 60, some 67, some 76, some 79, some 80]), (104, 4, [some 81, some 83, some 85, some 87]), (1, 10, [some 3, none, none, none, none, none, none, none, none, none]), (102, 800, []), (2, 9, [some 5, some 6, some 7, some 8, some 9, some 10, some 11, some 12, none]), (100, 15, []), (101, 5, []), (100, 5, []), (100, 5, []), (100, 48, []), (100, 48, []), (100, 48, []), (100, 48, []), (3, 2, [some 14, some 15]), (100, 48, []), (100, 48, []), (4, 6, [some 17, some 18, some 19, none, none, none]), (100, 80, []), (100, 80, []), (100, 80, []), (105, 3, [some 89, some 106, some 123]), (5, 4, [some 2, some 22, none, none]), (2, 9, [some 23, some 24, some 25, some 26, some 27, some 28, some 29, some 30, none]), (100, 15, []), (101, 5, []), (100, 5, []), (100, 5, []), (100, 48, []), (100, 48, []), (100, 48, []), (100, 48, []), (6, 3, [some 2, some 32, none]), (4, 6, [some 33, some 34, some 35, none, none, none]), (100, 80, []), (100, 80, []), (100, 80, []), (7, 11, [some 37, some 38, none, none, some 39, some 40, some 41, some 42, some 43, some 44, some 45]), (100, 48, []), (100, 48, []), (100, 2400, []), (100, 48, []), (100, 50, []), (100, 50, []), (100, 50, []), (100, 50, []), (103, 50, []), (8, 8, [some 47, some 48, some 49, none, none, some 50, some 51, some 36]), (100, 4, []), (100, 4, []), (100, 4, []), (100, 12, []), (2, 9, [some 52, some 53, some 54, some 55, some 56, some 57, some 58, some 59, none]), (100, 15, []), (101, 5, []), (100, 5, []), (100, 5, []), (100, 48, []), (100, 48, []), (100, 48, []), (100, 48, []), (9, 11, [some 61, none, none, none, none, none, none, some 64, some 65, some 66, none]), (3, 2, [some 62, some 63]), (100, 48, []), (100, 48, []), (100, 5, []), (100, 3, []), (100, 3, []), (2, 9, [some 68, some 69, some 70, some 71, some 72, some 73, some 74, some 75, none]), (100, 15, []), (101, 5, []), (100, 5, []), (100, 5, []), (100, 48, []), (100, 48, []), (100, 48, []), (100, 48, []), (3, 2, [some 77, some 78]), (100, 48, []), (100, 48, []), (100, 48, []), (100, 5, []), (10, 3, [some 82, none, none]), (101, 60, []), (10, 3, [some 84, none, none]), (101, 60, []), (10, 3, [some 86, none, none]), (101, 60, []), (10, 3, [some 88, none, none]), (101, 60, []), (11, 3, [some 90, some 99, some 102]), (2, 9, [some 91, some 92, some 93, some 94, some 95, some 96, some 97, some 98, none]), (100, 15, []), (101, 5, []), (100, 5, []), (100, 5, []), (100, 48, []), (100, 48, []), (100, 48, []), (100, 48, []), (3, 2, [some 100, some 101]), (100, 48, []), (100, 48, []), (4, 6, [some 103, some 104, some 105, none, none, none]), (100, 80, []), (100, 80, []), (100, 80, []), (11, 3, [some 107, some 116, some 119]), (2, 9, [some 108, some 109, some 110, some 111, some 112, some 113, some 114, some 115, none]), (100, 15, []), (101, 5, []), (100, 5, []), (100, 5, []), (100, 48, []), (100, 48, []), (100, 48, []), (100, 48, []), (3, 2, [some 117, some 118]), (100, 48, []), (100, 48, []), (4, 6, [some 120, some 121, some 122, none, none, none]), (100, 80, []), (100, 80, []), (100, 80, []), (11, 3, [some 124, some 133, some 136]), (2, 9, [some 125, some 126, some 127, some 128, some 129, some 130, some 131, some 132, none]), (100, 15, []), (101, 5, []), (100, 5, []), (100, 5, []), (100, 48, []), (100, 48, []), (100, 48, []), (100, 48, []), (3, 2, [some 134, some 135]), (100, 48, []), (100, 48, []), (4, 6, [some 137, some 138, some 139, none, none, none]), (100, 80, []), (100, 80, []), (100, 80, []), (12, 56, [some 141, some 142, none, none, none, some 143, some 144, some 145, some 146, some 147, none, none, none, none, none, none, none, none, none, none, none, none, some 148, none, none, some 149, some 150, some 151, some 152, some 153, some 154, some 155, some 156, some 157, some 158, some 159, none, none, none, none, some 160, none, none, none, some 161, some 162, some 163, some 164, some 165, some 166, some 167, none, none, none, none, none]), (100, 2400, []), (101, 25, []), (100, 4, []), (100, 4, []), (101, 240, []), (102, 800, []), (102, 800, []), (100, 3, []), (100, 48, []), (100, 48, []), (100, 48, []), (100, 3136, []), (100, 64, []), (100, 64, []), (100, 64, []), (100, 64, []), (100, 64, []), (103, 64, []), (100, 48, []), (100, 12, []), (100, 48, []), (100, 5, []), (100, 48, []), (100, 100, []), (100, 5, []), (100, 48, []), (100, 4, [])]
theorem w0_k0 : knd SH0 0 = 0 := rfl
theorem w0_k1 : knd SH0 1 = 104 := rfl
theorem w0_k2 : knd SH0 2 = 1 := rfl
theorem w0_k3 : knd SH0 3 = 102 := rfl
theorem w0_k4 : knd SH0 4 = 2 := rfl
theorem w0_k5 : knd SH0 5 = 100 := rfl
theorem w0_k6 : knd SH0 6 = 101 := rfl
theorem w0_k7 : knd SH0 7 = 100 := rfl
theorem w0_k8 : knd SH0 8 = 100 := rfl
theorem w0_k9 : knd SH0 9 = 100 := rfl
theorem w0_k10 : knd SH0 10 = 100 := rfl
theorem w0_k11 : knd SH0 11 = 100 := rfl
theorem w0_k12 : knd SH0 12 = 100 := rfl
theorem w0_k13 : knd SH0 13 = 3 := rfl
theorem w0_k14 : knd SH0 14 = 100 := rfl
theorem w0_k15 : knd SH0 15 = 100 := rfl
theorem w0_k16 : knd SH0 16 = 4 := rfl
theorem w0_k17 : knd SH0 17 = 100 := rfl
theorem w0_k18 : knd SH0 18 = 100 := rfl
theorem w0_k19 : knd SH0 19 = 100 := rfl
theorem w0_k20 : knd SH0 20 = 105 := rfl
theorem w0_k21 : knd SH0 21 = 5 := rfl
theorem w0_k22 : knd SH0 22 = 2 := rfl
theorem w0_k23 : knd SH0 23 = 100 := rfl
theorem w0_k24 : knd SH0 24 = 101 := rfl
theorem w0_k25 : knd SH0 25 = 100 := rfl
theorem w0_k26 : knd SH0 26 = 100 := rfl
theorem w0_k27 : knd SH0 27 = 100 := rfl
theorem w0_k28 : knd SH0 28 = 100 := rfl
theorem w0_k29 : knd SH0 29 = 100 := rfl
theorem w0_k30 : knd SH0 30 = 100 := rfl
theorem w0_k31 : knd SH0 31 = 6 := rfl
theorem w0_k32 : knd SH0 32 = 4 := rfl
theorem w0_k33 : knd SH0 33 = 100 := rfl
theorem w0_k34 : knd SH0 34 = 100 := rfl
theorem w0_k35 : knd SH0 35 = 100 := rfl
theorem w0_k36 : knd SH0 36 = 7 := rfl
theorem w0_k37 : knd SH0 37 = 100 := rfl
theorem w0_k38 : knd SH0 38 = 100 := rfl
theorem w0_k39 : knd SH0 39 = 100 := rfl
theorem w0_k40 : knd SH0 40 = 100 := rfl
theorem w0_k41 : knd SH0 41 = 100 := rfl
theorem w0_k42 : knd SH0 42 = 100 := rfl
theorem w0_k43 : knd SH0 43 = 100 := rfl
theorem w0_k44 : knd SH0 44 = 100 := rfl
theorem w0_k45 : knd SH0 45 = 103 := rfl
theorem w0_k46 : knd SH0 46 = 8 := rfl
theorem w0_k47 : knd SH0 47 = 100 := rfl
theorem w0_k48 : knd SH0 48 = 100 := rfl
theorem w0_k49 : knd SH0 49 = 100 := rfl
theorem w0_k50 : knd SH0 50 = 100 := rfl
theorem w0_k51 : knd SH0 51 = 2 := rfl
theorem w0_k52 : knd SH0 52 = 100 := rfl
theorem w0_k53 : knd SH0 53 = 101 := rfl
theorem w0_k54 : knd SH0 54 = 100 := rfl
theorem w0_k55 : knd SH0 55 = 100 := rfl
theorem w0_k56 : knd SH0 56 = 100 := rfl
theorem w0_k57 : knd SH0 57 = 100 := rfl
theorem w0_k58 : knd SH0 58 = 100 := rfl
theorem w0_k59 : knd SH0 59 = 100 := rfl
theorem w0_k60 : knd SH0 60 = 9 := rfl
theorem w0_k61 : knd SH0 61 = 3 := rfl
theorem w0_k62 : knd SH0 62 = 100 := rfl
theorem w0_k63 : knd SH0 63 = 100 := rfl
theorem w0_k64 : knd SH0 64 = 100 := rfl
theorem w0_k65 : knd SH0 65 = 100 := rfl
theorem w0_k66 : knd SH0 66 = 100 := rfl
theorem w0_k67 : knd SH0 67 = 2 := rfl
theorem w0_k68 : knd SH0 68 = 100 := rfl
theorem w0_k69 : knd SH0 69 = 101 := rfl
theorem w0_k70 : knd SH0 70 = 100 := rfl
theorem w0_k71 : knd SH0 71 = 100 := rfl
theorem w0_k72 : knd SH0 72 = 100 := rfl
theorem w0_k73 : knd SH0 73 = 100 := rfl
theorem w0_k74 : knd SH0 74 = 100 := rfl
theorem w0_k75 : knd SH0 75 = 100 := rfl
theorem w0_k76 : knd SH0 76 = 3 := rfl
theorem w0_k77 : knd SH0 77 = 100 := rfl
theorem w0_k78 : knd SH0 78 = 100 := rfl
theorem w0_k79 : knd SH0 79 = 100 := rfl
theorem w0_k80 : knd SH0 80 = 100 := rfl
theorem w0_k81 : knd SH0 81 = 10 := rfl
theorem w0_k82 : knd SH0 82 = 101 := rfl
theorem w0_k83 : knd SH0 83 = 10 := rfl
theorem w0_k84 : knd SH0 84 = 101 := rfl
theorem w0_k85 : knd SH0 85 = 10 := rfl
theorem w0_k86 : knd SH0 86 = 101 := rfl
theorem w0_k87 : knd SH0 87 = 10 := rfl
theorem w0_k88 : knd SH0 88 = 101 := rfl
theorem w0_k89 : knd SH0 89 = 11 := rfl
theorem w0_k90 : knd SH0 90 = 2 := rfl
theorem w0_k91 : knd SH0 91 = 100 := rfl
theorem w0_k92 : knd SH0 92 = 101 := rfl
theorem w0_k93 : knd SH0 93 = 100 := rfl
theorem w0_k94 : knd SH0 94 = 100 := rfl
theorem w0_k95 : knd SH0 95 = 100 := rfl
theorem w0_k96 : knd SH0 96 = 100 := rfl
theorem w0_k97 : knd SH0 97 = 100 := rfl
theorem w0_k98 : knd SH0 98 = 100 := rfl
theorem w0_k99 : knd SH0 99 = 3 := rfl
theorem w0_k100 : knd SH0 100 = 100 := rfl
theorem w0_k101 : knd SH0 101 = 100 := rfl
theorem w0_k102 : knd SH0 102 = 4 := rfl
theorem w0_k103 : knd SH0 103 = 100 := rfl
theorem w0_k104 : knd SH0 104 = 100 := rfl
theorem w0_k105 : knd SH0 105 = 100 := rfl
theorem w0_k106 : knd SH0 106 = 11 := rfl
theorem w0_k107 : knd SH0 107 = 2 := rfl
theorem w0_k108 : knd SH0 108 = 100 := rfl
theorem w0_k109 : knd SH0 109 = 101 := rfl
theorem w0_k110 : knd SH0 110 = 100 := rfl
theorem w0_k111 : knd SH0 111 = 100 := rfl
theorem w0_k112 : knd SH0 112 = 100 := rfl
theorem w0_k113 : knd SH0 113 = 100 := rfl
theorem w0_k114 : knd SH0 114 = 100 := rfl
theorem w0_k115 : knd SH0 115 = 100 := rfl
theorem w0_k116 : knd SH0 116 = 3 := rfl
theorem w0_k117 : knd SH0 117 = 100 := rfl
theorem w0_k118 : knd SH0 118 = 100 := rfl
theorem w0_k119 : knd SH0 119 = 4 := rfl
theorem w0_k120 : knd SH0 120 = 100 := rfl
theorem w0_k121 : knd SH0 121 = 100 := rfl
theorem w0_k122 : knd SH0 122 = 100 := rfl
theorem w0_k123 : knd SH0 123 = 11 := rfl
theorem w0_k124 : knd SH0 124 = 2 := rfl
theorem w0_k125 : knd SH0 125 = 100 := rfl
theorem w0_k126 : knd SH0 126 = 101 := rfl
theorem w0_k127 : knd SH0 127 = 100 := rfl
theorem w0_k128 : knd SH0 128 = 100 := rfl
theorem w0_k129 : knd SH0 129 = 100 := rfl
theorem w0_k130 : knd SH0 130 = 100 := rfl
theorem w0_k131 : knd SH0 131 = 100 := rfl
theorem w0_k132 : knd SH0 132 = 100 := rfl
theorem w0_k133 : knd SH0 133 = 3 := rfl
theorem w0_k134 : knd SH0 134 = 100 := rfl
theorem w0_k135 : knd SH0 135 = 100 := rfl
theorem w0_k136 : knd SH0 136 = 4 := rfl
theorem w0_k137 : knd SH0 137 = 100 := rfl
theorem w0_k138 : knd SH0 138 = 100 := rfl
theorem w0_k139 : knd SH0 139 = 100 := rfl
theorem w0_k140 : knd SH0 140 = 12 := rfl
theorem w0_k141 : knd SH0 141 = 100 := rfl
theorem w0_k142 : knd SH0 142 = 101 := rfl
theorem w0_k143 : knd SH0 143 = 100 := rfl
theorem w0_k144 : knd SH0 144 = 100 := rfl
theorem w0_k145 : knd SH0 145 = 101 := rfl
theorem w0_k146 : knd SH0 146 = 102 := rfl
theorem w0_k147 : knd SH0 147 = 102 := rfl
theorem w0_k148 : knd SH0 148 = 100 := rfl
theorem w0_k149 : knd SH0 149 = 100 := rfl
theorem w0_k150 : knd SH0 150 = 100 := rfl
theorem w0_k151 : knd SH0 151 = 100 := rfl
theorem w0_k152 : knd SH0 152 = 100 := rfl
theorem w0_k153 : knd SH0 153 = 100 := rfl
theorem w0_k154 : knd SH0 154 = 100 := rfl
theorem w0_k155 : knd SH0 155 = 100 := rfl
theorem w0_k156 : knd SH0 156 = 100 := rfl
theorem w0_k157 : knd SH0 157 = 100 := rfl
theorem w0_k158 : knd SH0 158 = 103 := rfl
theorem w0_k159 : knd SH0 159 = 100 := rfl
theorem w0_k160 : knd SH0 160 = 100 := rfl
theorem w0_k161 : knd SH0 161 = 100 := rfl
theorem w0_k162 : knd SH0 162 = 100 := rfl
theorem w0_k163 : knd SH0 163 = 100 := rfl
theorem w0_k164 : knd SH0 164 = 100 := rfl
theorem w0_k165 : knd SH0 165 = 100 := rfl
theorem w0_k166 : knd SH0 166 = 100 := rfl
theorem w0_k167 : knd SH0 167 = 100 := rfl
theorem w0_ch4 : CH SH0 4 := by unfold CH; refine ⟨?_, ?_⟩ <;> decide +kernel
theorem w0_ch22 : CH SH0 22 := by unfold CH; refine ⟨?_, ?_⟩ <;> decide +kernel
theorem w0_ch51 : CH SH0 51 := by unfold CH; refine ⟨?_, ?_⟩ <;> decide +kernel
theorem w0_ch67 : CH SH0 67 := by unfold CH; refine ⟨?_, ?_⟩ <;> decide +kernel
theorem w0_ch90 : CH SH0 90 := by unfold CH; refine ⟨?_, ?_⟩ <;> decide +kernel
theorem w0_ch107 : CH SH0 107 := by unfold CH; refine ⟨?_, ?_⟩ <;> decide +kernel
theorem w0_ch124 : CH SH0 124 := by unfold CH; refine ⟨?_, ?_⟩ <;> decide +kernel
theorem w0_pl13 : PL SH0 13 := by unfold PL; refine ⟨?_, ?_⟩ <;> decide +kernel
theorem w0_pl61 : PL SH0 61 := by unfold PL; refine ⟨?_, ?_⟩ <;> decide +kernel
theorem w0_pl76 : PL SH0 76 := by unfold PL; refine ⟨?_, ?_⟩ <;> decide +kernel
theorem w0_pl99 : PL SH0 99 := by unfold PL; refine ⟨?_, ?_⟩ <;> decide +kernel
theorem w0_pl116 : PL SH0 116 := by unfold PL; refine ⟨?_, ?_⟩ <;> decide +kernel
theorem w0_pl133 : PL SH0 133 := by unfold PL; refine ⟨?_, ?_⟩ <;> decide +kernel
theorem w0_pa36 : PA SH0 36 := by unfold PA; refine ⟨?_, ?_⟩ <;> decide +kernel
theorem w0_md140 : MD SH0 140 := by unfold MD; refine ⟨?_, ?_⟩ <;> decide +kernel
theorem w0_r0_3 : rfs SH0 0 3 = some 1 := rfl
theorem w0_r0_4 : rfs SH0 0 4 = some 2 := rfl
theorem w0_r0_5 : rfs SH0 0 5 = some 4 := rfl
theorem w0_r0_6 : rfs SH0 0 6 = some 13 := rfl
theorem w0_r0_7 : rfs SH0 0 7 = some 16 := rfl
theorem w0_r0_8 : rfs SH0 0 8 = some 20 := rfl
theorem w0_r0_10 : rfs SH0 0 10 = some 21 := rfl
theorem w0_r0_11 : rfs SH0 0 11 = some 31 := rfl
theorem w0_r0_12 : rfs SH0 0 12 = some 36 := rfl
theorem w0_r0_13 : rfs SH0 0 13 = some 46 := rfl
theorem w0_r0_14 : rfs SH0 0 14 = some 60 := rfl
theorem w0_r0_15 : rfs SH0 0 15 = some 67 := rfl
theorem w0_r0_16 : rfs SH0 0 16 = some 76 := rfl
theorem w0_r0_17 : rfs SH0 0 17 = some 79 := rfl
theorem w0_r0_18 : rfs SH0 0 18 = some 80 := rfl
theorem w0_r2_0 : rfs SH0 2 0 = some 3 := rfl
theorem w0_r16_0 : rfs SH0 16 0 = some 17 := rfl
theorem w0_r16_1 : rfs SH0 16 1 = some 18 := rfl
theorem w0_r16_2 : rfs SH0 16 2 = some 19 := rfl
theorem w0_r21_0 : rfs SH0 21 0 = some 2 := rfl
theorem w0_r21_1 : rfs SH0 21 1 = some 22 := rfl
theorem w0_r31_0 : rfs SH0 31 0 = some 2 := rfl
theorem w0_r31_1 : rfs SH0 31 1 = some 32 := rfl
theorem w0_r32_0 : rfs SH0 32 0 = some 33 := rfl
theorem w0_r32_1 : rfs SH0 32 1 = some 34 := rfl
theorem w0_r32_2 : rfs SH0 32 2 = some 35 := rfl
theorem w0_r46_0 : rfs SH0 46 0 = some 47 := rfl
theorem w0_r46_1 : rfs SH0 46 1 = some 48 := rfl
theorem w0_r46_2 : rfs SH0 46 2 = some 49 := rfl
theorem w0_r46_5 : rfs SH0 46 5 = some 50 := rfl
theorem w0_r46_6 : rfs SH0 46 6 = some 51 := rfl
theorem w0_r46_7 : rfs SH0 46 7 = some 36 := rfl
theorem w0_r60_0 : rfs SH0 60 0 = some 61 := rfl
theorem w0_r60_7 : rfs SH0 60 7 = some 64 := rfl
theorem w0_r60_8 : rfs SH0 60 8 = some 65 := rfl
theorem w0_r60_9 : rfs SH0 60 9 = some 66 := rfl
theorem w0_r81_0 : rfs SH0 81 0 = some 82 := rfl
theorem w0_r83_0 : rfs SH0 83 0 = some 84 := rfl
theorem w0_r85_0 : rfs SH0 85 0 = some 86 := rfl
theorem w0_r87_0 : rfs SH0 87 0 = some 88 := rfl
theorem w0_r89_0 : rfs SH0 89 0 = some 90 := rfl
theorem w0_r89_1 : rfs SH0 89 1 = some 99 := rfl
theorem w0_r89_2 : rfs SH0 89 2 = some 102 := rfl
theorem w0_r102_0 : rfs SH0 102 0 = some 103 := rfl
theorem w0_r102_1 : rfs SH0 102 1 = some 104 := rfl
theorem w0_r102_2 : rfs SH0 102 2 = some 105 := rfl
theorem w0_r106_0 : rfs SH0 106 0 = some 107 := rfl
theorem w0_r106_1 : rfs SH0 106 1 = some 116 := rfl
theorem w0_r106_2 : rfs SH0 106 2 = some 119 := rfl
theorem w0_r119_0 : rfs SH0 119 0 = some 120 := rfl
theorem w0_r119_1 : rfs SH0 119 1 = some 121 := rfl
theorem w0_r119_2 : rfs SH0 119 2 = some 122 := rfl
theorem w0_r123_0 : rfs SH0 123 0 = some 124 := rfl
theorem w0_r123_1 : rfs SH0 123 1 = some 133 := rfl
theorem w0_r123_2 : rfs SH0 123 2 = some 136 := rfl
theorem w0_r136_0 : rfs SH0 136 0 = some 137 := rfl
theorem w0_r136_1 : rfs SH0 136 1 = some 138 := rfl
theorem w0_r136_2 : rfs SH0 136 2 = some 139 := rfl
theorem w0_r1_0 : rfs SH0 1 0 = some 81 := rfl
theorem w0_r1_1 : rfs SH0 1 1 = some 83 := rfl
theorem w0_r1_2 : rfs SH0 1 2 = some 85 := rfl
theorem w0_r1_3 : rfs SH0 1 3 = some 87 := rfl
theorem w0_r20_0 : rfs SH0 20 0 = some 89 := rfl
theorem w0_r20_1 : rfs SH0 20 1 = some 106 := rfl
theorem w0_r20_2 : rfs SH0 20 2 = some 123 := rfl
theorem w0_l1 : len SH0 1 = 4 := rfl
theorem w0_l3 : len SH0 3 = 800 := rfl
theorem w0_l5 : len SH0 5 = 15 := rfl
theorem w0_l6 : len SH0 6 = 5 := rfl
theorem w0_l7 : len SH0 7 = 5 := rfl
theorem w0_l8 : len SH0 8 = 5 := rfl
theorem w0_l9 : len SH0 9 = 48 := rfl
theorem w0_l10 : len SH0 10 = 48 := rfl
theorem w0_l11 : len SH0 11 = 48 := rfl
theorem w0_l12 : len SH0 12 = 48 := rfl
theorem w0_l14 : len SH0 14 = 48 := rfl
theorem w0_l15 : len SH0 15 = 48 := rfl
theorem w0_l17 : len SH0 17 = 80 := rfl
theorem w0_l18 : len SH0 18 = 80 := rfl
theorem w0_l19 : len SH0 19 = 80 := rfl
theorem w0_l20 : len SH0 20 = 3 := rfl
theorem w0_l23 : len SH0 23 = 15 := rfl
theorem w0_l24 : len SH0 24 = 5 := rfl
theorem w0_l25 : len SH0 25 = 5 := rfl
theorem w0_l26 : len SH0 26 = 5 := rfl
theorem w0_l27 : len SH0 27 = 48 := rfl
theorem w0_l28 : len SH0 28 = 48 := rfl
theorem w0_l29 : len SH0 29 = 48 := rfl
theorem w0_l30 : len SH0 30 = 48 := rfl
theorem w0_l33 : len SH0 33 = 80 := rfl
theorem w0_l34 : len SH0 34 = 80 := rfl
theorem w0_l35 : len SH0 35 = 80 := rfl
theorem w0_l37 : len SH0 37 = 48 := rfl
theorem w0_l38 : len SH0 38 = 48 := rfl
theorem w0_l39 : len SH0 39 = 2400 := rfl
theorem w0_l40 : len SH0 40 = 48 := rfl
theorem w0_l41 : len SH0 41 = 50 := rfl
theorem w0_l42 : len SH0 42 = 50 := rfl
theorem w0_l43 : len SH0 43 = 50 := rfl
theorem w0_l44 : len SH0 44 = 50 := rfl
theorem w0_l45 : len SH0 45 = 50 := rfl
theorem w0_l47 : len SH0 47 = 4 := rfl
theorem w0_l48 : len SH0 48 = 4 := rfl
theorem w0_l49 : len SH0 49 = 4 := rfl
theorem w0_l50 : len SH0 50 = 12 := rfl
theorem w0_l52 : len SH0 52 = 15 := rfl
theorem w0_l53 : len SH0 53 = 5 := rfl
theorem w0_l54 : len SH0 54 = 5 := rfl
theorem w0_l55 : len SH0 55 = 5 := rfl
theorem w0_l56 : len SH0 56 = 48 := rfl
theorem w0_l57 : len SH0 57 = 48 := rfl
theorem w0_l58 : len SH0 58 = 48 := rfl
theorem w0_l59 : len SH0 59 = 48 := rfl
theorem w0_l62 : len SH0 62 = 48 := rfl
theorem w0_l63 : len SH0 63 = 48 := rfl
theorem w0_l64 : len SH0 64 = 5 := rfl
theorem w0_l65 : len SH0 65 = 3 := rfl
theorem w0_l66 : len SH0 66 = 3 := rfl
theorem w0_l68 : len SH0 68 = 15 := rfl
theorem w0_l69 : len SH0 69 = 5 := rfl
theorem w0_l70 : len SH0 70 = 5 := rfl
theorem w0_l71 : len SH0 71 = 5 := rfl
theorem w0_l72 : len SH0 72 = 48 := rfl
theorem w0_l73 : len SH0 73 = 48 := rfl
theorem w0_l74 : len SH0 74 = 48 := rfl
theorem w0_l75 : len SH0 75 = 48 := rfl
theorem w0_l77 : len SH0 77 = 48 := rfl
theorem w0_l78 : len SH0 78 = 48 := rfl
theorem w0_l79 : len SH0 79 = 48 := rfl
theorem w0_l80 : len SH0 80 = 5 := rfl
theorem w0_l82 : len SH0 82 = 60 := rfl
theorem w0_l84 : len SH0 84 = 60 := rfl
theorem w0_l86 : len SH0 86 = 60 := rfl
theorem w0_l88 : len SH0 88 = 60 := rfl
theorem w0_l91 : len SH0 91 = 15 := rfl
theorem w0_l92 : len SH0 92 = 5 := rfl
theorem w0_l93 : len SH0 93 = 5 := rfl
theorem w0_l94 : len SH0 94 = 5 := rfl
theorem w0_l95 : len SH0 95 = 48 := rfl
theorem w0_l96 : len SH0 96 = 48 := rfl
theorem w0_l97 : len SH0 97 = 48 := rfl
theorem w0_l98 : len SH0 98 = 48 := rfl
theorem w0_l100 : len SH0 100 = 48 := rfl
theorem w0_l101 : len SH0 101 = 48 := rfl
theorem w0_l103 : len SH0 103 = 80 := rfl
theorem w0_l104 : len SH0 104 = 80 := rfl
theorem w0_l105 : len SH0 105 = 80 := rfl
theorem w0_l108 : len SH0 108 = 15 := rfl
theorem w0_l109 : len SH0 109 = 5 := rfl
theorem w0_l110 : len SH0 110 = 5 := rfl
theorem w0_l111 : len SH0 111 = 5 := rfl
theorem w0_l112 : len SH0 112 = 48 := rfl
theorem w0_l113 : len SH0 113 = 48 := rfl
theorem w0_l114 : len SH0 114 = 48 := rfl
theorem w0_l115 : len SH0 115 = 48 := rfl
theorem w0_l117 : len SH0 117 = 48 := rfl
theorem w0_l118 : len SH0 118 = 48 := rfl
theorem w0_l120 : len SH0 120 = 80 := rfl
theorem w0_l121 : len SH0 121 = 80 := rfl
theorem w0_l122 : len SH0 122 = 80 := rfl
theorem w0_l125 : len SH0 125 = 15 := rfl
theorem w0_l126 : len SH0 126 = 5 := rfl
theorem w0_l127 : len SH0 127 = 5 := rfl
theorem w0_l128 : len SH0 128 = 5 := rfl
theorem w0_l129 : len SH0 129 = 48 := rfl
theorem w0_l130 : len SH0 130 = 48 := rfl
theorem w0_l131 : len SH0 131 = 48 := rfl
theorem w0_l132 : len SH0 132 = 48 := rfl
theorem w0_l134 : len SH0 134 = 48 := rfl
theorem w0_l135 : len SH0 135 = 48 := rfl
theorem w0_l137 : len SH0 137 = 80 := rfl
theorem w0_l138 : len SH0 138 = 80 := rfl
theorem w0_l139 : len SH0 139 = 80 := rfl
theorem w0_l141 : len SH0 141 = 2400 := rfl
theorem w0_l142 : len SH0 142 = 25 := rfl
theorem w0_l143 : len SH0 143 = 4 := rfl
theorem w0_l144 : len SH0 144 = 4 := rfl
theorem w0_l145 : len SH0 145 = 240 := rfl
theorem w0_l146 : len SH0 146 = 800 := rfl
theorem w0_l147 : len SH0 147 = 800 := rfl
theorem w0_l148 : len SH0 148 = 3 := rfl
theorem w0_l149 : len SH0 149 = 48 := rfl
theorem w0_l150 : len SH0 150 = 48 := rfl
theorem w0_l151 : len SH0 151 = 48 := rfl
theorem w0_l152 : len SH0 152 = 3136 := rfl
theorem w0_l153 : len SH0 153 = 64 := rfl
theorem w0_l154 : len SH0 154 = 64 := rfl
theorem w0_l155 : len SH0 155 = 64 := rfl
theorem w0_l156 : len SH0 156 = 64 := rfl
theorem w0_l157 : len SH0 157 = 64 := rfl
theorem w0_l158 : len SH0 158 = 64 := rfl
theorem w0_l159 : len SH0 159 = 48 := rfl
theorem w0_l160 : len SH0 160 = 12 := rfl
theorem w0_l161 : len SH0 161 = 48 := rfl
theorem w0_l162 : len SH0 162 = 5 := rfl
theorem w0_l163 : len SH0 163 = 48 := rfl
theorem w0_l164 : len SH0 164 = 100 := rfl
theorem w0_l165 : len SH0 165 = 5 := rfl
theorem w0_l166 : len SH0 166 = 48 := rfl
theorem w0_l167 : len SH0 167 = 4 := rfl
