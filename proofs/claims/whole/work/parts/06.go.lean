/-! the shapes behind the constructors -/
def gx_G1 : gx_G := [(11, 10, [some 1, some 40, some 41, some 42, some 62, some 75, some 79, some 82, some 84, some 88]), (9, 9, [some 2, some 3, some 4, some 5, some 6, some 7, none, none, none]), (50, 4, []), (54, 2, [some 8, some 24]), (55, 2, [some 16, some 32]), (55, 2, [some 19, some 35]), (56, 2, [some 22, some 38]), (51, 600, []), (5, 10, [none, none, none, some 9, some 10, some 11, some 12, some 13, some 14, some 15]), (50, 4, []), (50, 40, []), (50, 40, []), (50, 6, []), (50, 6, []), (50, 6, []), (50, 6, []), (2, 4, [none, some 17, some 18, none]), (50, 40, []), (50, 120, []), (2, 4, [none, some 20, some 21, none]), (50, 8, []), (50, 24, []), (6, 2, [none, some 23]), (50, 36, []), (5, 10, [none, none, none, some 25, some 26, some 27, some 28, some 29, some 30, some 31]), (50, 4, []), (50, 40, []), (50, 40, []), (50, 6, []), (50, 6, []), (50, 6, []), (50, 6, []), (2, 4, [none, some 33, some 34, none]), (50, 40, []), (50, 120, []), (2, 4, [none, some 36, some 37, none]), (50, 8, []), (50, 24, []), (6, 2, [none, some 39]), (50, 36, []), (57, 3, [some 89, some 128, some 167]), (52, 3, []), (4, 11, [some 43, some 45, some 53, some 56, some 59, some 61, none, none, none, none, none]), (8, 6, [some 44, none, none, none, none, none]), (51, 600, []), (5, 10, [none, none, none, some 46, some 47, some 48, some 49, some 50, some 51, some 52]), (50, 4, []), (50, 40, []), (50, 40, []), (50, 6, []), (50, 6, []), (50, 6, []), (50, 6, []), (2, 4, [none, some 54, some 55, none]), (50, 40, []), (50, 120, []), (2, 4, [none, some 57, some 58, none]), (50, 8, []), (50, 24, []), (6, 2, [none, some 60]), (50, 36, []), (50, 4, []), (3, 7, [some 63, some 71, some 72, some 73, some 74, none, none]), (5, 10, [none, none, none, some 64, some 65, some 66, some 67, some 68, some 69, some 70]), (50, 4, []), (50, 40, []), (50, 40, []), (50, 6, []), (50, 6, []), (50, 6, []), (50, 6, []), (52, 40, []), (50, 6, []), (50, 4, []), (50, 40, []), (0, 7, [some 76, some 77, some 78, none, none, none, none]), (53, 240, []), (53, 2624, []), (53, 2624, []), (1, 3, [some 80, some 81, none]), (50, 40, []), (50, 3, []), (7, 8, [none, none, some 83, none, none, none, none, none]), (50, 40, []), (10, 4, [some 85, some 86, some 87, none]), (50, 6, []), (50, 6, []), (50, 6, []), (50, 41, []), (9, 9, [some 90, some 91, some 92, some 93, some 94, some 95, none, none, none]), (50, 4, []), (54, 2, [some 96, some 112]), (55, 2, [some 104, some 120]), (55, 2, [some 107, some 123]), (56, 2, [some 110, some 126]), (51, 600, []), (5, 10, [none, none, none, some 97, some 98, some 99, some 100, some 101, some 102, some 103]), (50, 4, []), (50, 40, []), (50, 40, []), (50, 6, []), (50, 6, []), (50, 6, []), (50, 6, []), (2, 4, [none, some 105, some 106, none]), (50, 40, []), (50, 120, []), (2, 4, [none, some 108, some 109, none]), (50, 8, []), (50, 24, []), (6, 2, [none, some 111]), (50, 36, []), (5, 10, [none, none, none, some 113, some 114, some 115, some 116, some 117, some 118, some 119]), (50, 4, []), (50, 40, []), (50, 40, []), (50, 6, []), (50, 6, []), (50, 6, []), (50, 6, []), (2, 4, [none, some 121, some 122, none]), (50, 40, []), (50, 120, []), (2, 4, [none, some 124, some 125, none]), (50, 8, []), (50, 24, []), (6, 2, [none, some 127]), (50, 36, []), (9, 9, [some 129, some 130, some 131, some 132, some 133, some 134, none, none, none]), (50, 4, []), (54, 2, [some 135, some 151]), (55, 2, [some 143, some 159]), (55, 2, [some 146, some 162]), (56, 2, [some 149, some 165]), (51, 600, []), (5, 10, [none, none, none, some 136, some 137, some 138, some 139, some 140, some 141, some 142]), (50, 4, []), (50, 40, []), (50, 40, []), (50, 6, []), (50, 6, []), (50, 6, []), (50, 6, []), (2, 4, [none, some 144, some 145, none]), (50, 40, []), (50, 120, []), (2, 4, [none, some 147, some 148, none]), (50, 8, []), (50, 24, []), (6, 2, [none, some 150]), (50, 36, []), (5, 10, [none, none, none, some 152, some 153, some 154, some 155, some 156, some 157, some 158]), (50, 4, []), (50, 40, []), (50, 40, []), (50, 6, []), (50, 6, []), (50, 6, []), (50, 6, []), (2, 4, [none, some 160, some 161, none]), (50, 40, []), (50, 120, []), (2, 4, [none, some 163, some 164, none]), (50, 8, []), (50, 24, []), (6, 2, [none, some 166]), (50, 36, []), (9, 9, [some 168, some 169, some 170, some 171, some 172, some 173, none, none, none]), (50, 4, []), (54, 2, [some 174, some 190]), (55, 2, [some 182, some 198]), (55, 2, [some 185, some 201]), (56, 2, [some 188, some 204]), (51, 600, []), (5, 10, [none, none, none, some 175, some 176, some 177, some 178, some 179, some 180, some 181]), (50, 4, []), (50, 40, []), (50, 40, []), (50, 6, []), (50, 6, []), (50, 6, []), (50, 6, []), (2, 4, [none, some 183, some 184, none]), (50, 40, []), (50, 120, []), (2, 4, [none, some 186, some 187, none]), (50, 8, []), (50, 24, []), (6, 2, [none, some 189]), (50, 36, []), (5, 10, [none, none, none, some 191, some 192, some 193, some 194, some 195, some 196, some 197]), (50, 4, []), (50, 40, []), (50, 40, []), (50, 6, []), (50, 6, []), (50, 6, []), (50, 6, []), (2, 4, [none, some 199, some 200, none]), (50, 40, []), (50, 120, []), (2, 4, [none, some 202, some 203, none]), (50, 8, []), (50, 24, []), (6, 2, [none, some 205]), (50, 36, []), (12, 57, [none, some 207, some 208, some 209, some 210, some 211, some 212, some 213, some 214, some 215, none, none, none, none, none, none, none, none, none, some 216, some 217, none, none, none, none, none, none, none, some 218, some 219, some 220, some 221, some 222, none, none, some 223, some 224, some 225, none, some 226, some 227, none, some 228, some 229, none, some 230, none, some 231, none, none, none, none, some 232, some 233, some 234, none, some 235]), (51, 2400, []), (50, 4, []), (50, 4, []), (50, 4, []), (50, 16, []), (50, 888, []), (50, 1288, []), (50, 136, []), (50, 296, []), (50, 161, []), (50, 5, []), (50, 4, []), (50, 40, []), (50, 40, []), (52, 40, []), (50, 6, []), (50, 4, []), (50, 40, []), (50, 6, []), (50, 2624, []), (50, 240, []), (50, 41, []), (53, 240, []), (50, 3, []), (50, 820, []), (50, 6, []), (50, 6, []), (50, 6, []), (52, 3, [])]
theorem g_0 : gx_G1[0]? = some (11, 10, [some 1, some 40, some 41, some 42, some 62, some 75, some 79, some 82, some 84, some 88]) := rfl
theorem g_1 : gx_G1[1]? = some (9, 9, [some 2, some 3, some 4, some 5, some 6, some 7, none, none, none]) := rfl
theorem g_2 : gx_G1[2]? = some (50, 4, []) := rfl
theorem g_3 : gx_G1[3]? = some (54, 2, [some 8, some 24]) := rfl
theorem g_4 : gx_G1[4]? = some (55, 2, [some 16, some 32]) := rfl
theorem g_5 : gx_G1[5]? = some (55, 2, [some 19, some 35]) := rfl
theorem g_6 : gx_G1[6]? = some (56, 2, [some 22, some 38]) := rfl
theorem g_7 : gx_G1[7]? = some (51, 600, []) := rfl
theorem g_8 : gx_G1[8]? = some (5, 10, [none, none, none, some 9, some 10, some 11, some 12, some 13, some 14, some 15]) := rfl
theorem g_9 : gx_G1[9]? = some (50, 4, []) := rfl
theorem g_10 : gx_G1[10]? = some (50, 40, []) := rfl
theorem g_11 : gx_G1[11]? = some (50, 40, []) := rfl
theorem g_12 : gx_G1[12]? = some (50, 6, []) := rfl
theorem g_13 : gx_G1[13]? = some (50, 6, []) := rfl
theorem g_14 : gx_G1[14]? = some (50, 6, []) := rfl
theorem g_15 : gx_G1[15]? = some (50, 6, []) := rfl
theorem g_16 : gx_G1[16]? = some (2, 4, [none, some 17, some 18, none]) := rfl
theorem g_17 : gx_G1[17]? = some (50, 40, []) := rfl
theorem g_18 : gx_G1[18]? = some (50, 120, []) := rfl
theorem g_19 : gx_G1[19]? = some (2, 4, [none, some 20, some 21, none]) := rfl
theorem g_20 : gx_G1[20]? = some (50, 8, []) := rfl
theorem g_21 : gx_G1[21]? = some (50, 24, []) := rfl
theorem g_22 : gx_G1[22]? = some (6, 2, [none, some 23]) := rfl
theorem g_23 : gx_G1[23]? = some (50, 36, []) := rfl
theorem g_24 : gx_G1[24]? = some (5, 10, [none, none, none, some 25, some 26, some 27, some 28, some 29, some 30, some 31]) := rfl
theorem g_25 : gx_G1[25]? = some (50, 4, []) := rfl
theorem g_26 : gx_G1[26]? = some (50, 40, []) := rfl
theorem g_27 : gx_G1[27]? = some (50, 40, []) := rfl
theorem g_28 : gx_G1[28]? = some (50, 6, []) := rfl
theorem g_29 : gx_G1[29]? = some (50, 6, []) := rfl
theorem g_30 : gx_G1[30]? = some (50, 6, []) := rfl
theorem g_31 : gx_G1[31]? = some (50, 6, []) := rfl
theorem g_32 : gx_G1[32]? = some (2, 4, [none, some 33, some 34, none]) := rfl
theorem g_33 : gx_G1[33]? = some (50, 40, []) := rfl
theorem g_34 : gx_G1[34]? = some (50, 120, []) := rfl
theorem g_35 : gx_G1[35]? = some (2, 4, [none, some 36, some 37, none]) := rfl
theorem g_36 : gx_G1[36]? = some (50, 8, []) := rfl
theorem g_37 : gx_G1[37]? = some (50, 24, []) := rfl
theorem g_38 : gx_G1[38]? = some (6, 2, [none, some 39]) := rfl
theorem g_39 : gx_G1[39]? = some (50, 36, []) := rfl
theorem g_40 : gx_G1[40]? = some (57, 3, [some 89, some 128, some 167]) := rfl
theorem g_41 : gx_G1[41]? = some (52, 3, []) := rfl
theorem g_42 : gx_G1[42]? = some (4, 11, [some 43, some 45, some 53, some 56, some 59, some 61, none, none, none, none, none]) := rfl
theorem g_43 : gx_G1[43]? = some (8, 6, [some 44, none, none, none, none, none]) := rfl
theorem g_44 : gx_G1[44]? = some (51, 600, []) := rfl
theorem g_45 : gx_G1[45]? = some (5, 10, [none, none, none, some 46, some 47, some 48, some 49, some 50, some 51, some 52]) := rfl
theorem g_46 : gx_G1[46]? = some (50, 4, []) := rfl
theorem g_47 : gx_G1[47]? = some (50, 40, []) := rfl
theorem g_48 : gx_G1[48]? = some (50, 40, []) := rfl
theorem g_49 : gx_G1[49]? = some (50, 6, []) := rfl
theorem g_50 : gx_G1[50]? = some (50, 6, []) := rfl
theorem g_51 : gx_G1[51]? = some (50, 6, []) := rfl
theorem g_52 : gx_G1[52]? = some (50, 6, []) := rfl
theorem g_53 : gx_G1[53]? = some (2, 4, [none, some 54, some 55, none]) := rfl
theorem g_54 : gx_G1[54]? = some (50, 40, []) := rfl
theorem g_55 : gx_G1[55]? = some (50, 120, []) := rfl
theorem g_56 : gx_G1[56]? = some (2, 4, [none, some 57, some 58, none]) := rfl
theorem g_57 : gx_G1[57]? = some (50, 8, []) := rfl
theorem g_58 : gx_G1[58]? = some (50, 24, []) := rfl
theorem g_59 : gx_G1[59]? = some (6, 2, [none, some 60]) := rfl
theorem g_60 : gx_G1[60]? = some (50, 36, []) := rfl
theorem g_61 : gx_G1[61]? = some (50, 4, []) := rfl
theorem g_62 : gx_G1[62]? = some (3, 7, [some 63, some 71, some 72, some 73, some 74, none, none]) := rfl
theorem g_63 : gx_G1[63]? = some (5, 10, [none, none, none, some 64, some 65, some 66, some 67, some 68, some 69, some 70]) := rfl
theorem g_64 : gx_G1[64]? = some (50, 4, []) := rfl
theorem g_65 : gx_G1[65]? = some (50, 40, []) := rfl
theorem g_66 : gx_G1[66]? = some (50, 40, []) := rfl
theorem g_67 : gx_G1[67]? = some (50, 6, []) := rfl
theorem g_68 : gx_G1[68]? = some (50, 6, []) := rfl
theorem g_69 : gx_G1[69]? = some (50, 6, []) := rfl
theorem g_70 : gx_G1[70]? = some (50, 6, []) := rfl
theorem g_71 : gx_G1[71]? = some (52, 40, []) := rfl
theorem g_72 : gx_G1[72]? = some (50, 6, []) := rfl
theorem g_73 : gx_G1[73]? = some (50, 4, []) := rfl
theorem g_74 : gx_G1[74]? = some (50, 40, []) := rfl
theorem g_75 : gx_G1[75]? = some (0, 7, [some 76, some 77, some 78, none, none, none, none]) := rfl
theorem g_76 : gx_G1[76]? = some (53, 240, []) := rfl
theorem g_77 : gx_G1[77]? = some (53, 2624, []) := rfl
theorem g_78 : gx_G1[78]? = some (53, 2624, []) := rfl
theorem g_79 : gx_G1[79]? = some (1, 3, [some 80, some 81, none]) := rfl
theorem g_80 : gx_G1[80]? = some (50, 40, []) := rfl
theorem g_81 : gx_G1[81]? = some (50, 3, []) := rfl
theorem g_82 : gx_G1[82]? = some (7, 8, [none, none, some 83, none, none, none, none, none]) := rfl
theorem g_83 : gx_G1[83]? = some (50, 40, []) := rfl
theorem g_84 : gx_G1[84]? = some (10, 4, [some 85, some 86, some 87, none]) := rfl
theorem g_85 : gx_G1[85]? = some (50, 6, []) := rfl
theorem g_86 : gx_G1[86]? = some (50, 6, []) := rfl
theorem g_87 : gx_G1[87]? = some (50, 6, []) := rfl
theorem g_88 : gx_G1[88]? = some (50, 41, []) := rfl
theorem g_89 : gx_G1[89]? = some (9, 9, [some 90, some 91, some 92, some 93, some 94, some 95, none, none, none]) := rfl
theorem g_90 : gx_G1[90]? = some (50, 4, []) := rfl
theorem g_91 : gx_G1[91]? = some (54, 2, [some 96, some 112]) := rfl
theorem g_92 : gx_G1[92]? = some (55, 2, [some 104, some 120]) := rfl
theorem g_93 : gx_G1[93]? = some (55, 2, [some 107, some 123]) := rfl
theorem g_94 : gx_G1[94]? = some (56, 2, [some 110, some 126]) := rfl
theorem g_95 : gx_G1[95]? = some (51, 600, []) := rfl
theorem g_96 : gx_G1[96]? = some (5, 10, [none, none, none, some 97, some 98, some 99, some 100, some 101, some 102, some 103]) := rfl
theorem g_97 : gx_G1[97]? = some (50, 4, []) := rfl
theorem g_98 : gx_G1[98]? = some (50, 40, []) := rfl
theorem g_99 : gx_G1[99]? = some (50, 40, []) := rfl
theorem g_100 : gx_G1[100]? = some (50, 6, []) := rfl
theorem g_101 : gx_G1[101]? = some (50, 6, []) := rfl
theorem g_102 : gx_G1[102]? = some (50, 6, []) := rfl
theorem g_103 : gx_G1[103]? = some (50, 6, []) := rfl
theorem g_104 : gx_G1[104]? = some (2, 4, [none, some 105, some 106, none]) := rfl
theorem g_105 : gx_G1[105]? = some (50, 40, []) := rfl
theorem g_106 : gx_G1[106]? = some (50, 120, []) := rfl
theorem g_107 : gx_G1[107]? = some (2, 4, [none, some 108, some 109, none]) := rfl
theorem g_108 : gx_G1[108]? = some (50, 8, []) := rfl
theorem g_109 : gx_G1[109]? = some (50, 24, []) := rfl
theorem g_110 : gx_G1[110]? = some (6, 2, [none, some 111]) := rfl
theorem g_111 : gx_G1[111]? = some (50, 36, []) := rfl
theorem g_112 : gx_G1[112]? = some (5, 10, [none, none, none, some 113, some 114, some 115, some 116, some 117, some 118, some 119]) := rfl
theorem g_113 : gx_G1[113]? = some (50, 4, []) := rfl
theorem g_114 : gx_G1[114]? = some (50, 40, []) := rfl
theorem g_115 : gx_G1[115]? = some (50, 40, []) := rfl
theorem g_116 : gx_G1[116]? = some (50, 6, []) := rfl
theorem g_117 : gx_G1[117]? = some (50, 6, []) := rfl
theorem g_118 : gx_G1[118]? = some (50, 6, []) := rfl
theorem g_119 : gx_G1[119]? = some (50, 6, []) := rfl
theorem g_120 : gx_G1[120]? = some (2, 4, [none, some 121, some 122, none]) := rfl
theorem g_121 : gx_G1[121]? = some (50, 40, []) := rfl
theorem g_122 : gx_G1[122]? = some (50, 120, []) := rfl
theorem g_123 : gx_G1[123]? = some (2, 4, [none, some 124, some 125, none]) := rfl
theorem g_124 : gx_G1[124]? = some (50, 8, []) := rfl
theorem g_125 : gx_G1[125]? = some (50, 24, []) := rfl
theorem g_126 : gx_G1[126]? = some (6, 2, [none, some 127]) := rfl
theorem g_127 : gx_G1[127]? = some (50, 36, []) := rfl
theorem g_128 : gx_G1[128]? = some (9, 9, [some 129, some 130, some 131, some 132, some 133, some 134, none, none, none]) := rfl
theorem g_129 : gx_G1[129]? = some (50, 4, []) := rfl
theorem g_130 : gx_G1[130]? = some (54, 2, [some 135, some 151]) := rfl
theorem g_131 : gx_G1[131]? = some (55, 2, [some 143, some 159]) := rfl
theorem g_132 : gx_G1[132]? = some (55, 2, [some 146, some 162]) := rfl
theorem g_133 : gx_G1[133]? = some (56, 2, [some 149, some 165]) := rfl
theorem g_134 : gx_G1[134]? = some (51, 600, []) := rfl
theorem g_135 : gx_G1[135]? = some (5, 10, [none, none, none, some 136, some 137, some 138, some 139, some 140, some 141, some 142]) := rfl
theorem g_136 : gx_G1[136]? = some (50, 4, []) := rfl
theorem g_137 : gx_G1[137]? = some (50, 40, []) := rfl
theorem g_138 : gx_G1[138]? = some (50, 40, []) := rfl
theorem g_139 : gx_G1[139]? = some (50, 6, []) := rfl
theorem g_140 : gx_G1[140]? = some (50, 6, []) := rfl
theorem g_141 : gx_G1[141]? = some (50, 6, []) := rfl
theorem g_142 : gx_G1[142]? = some (50, 6, []) := rfl
theorem g_143 : gx_G1[143]? = some (2, 4, [none, some 144, some 145, none]) := rfl
theorem g_144 : gx_G1[144]? = some (50, 40, []) := rfl
theorem g_145 : gx_G1[145]? = some (50, 120, []) := rfl
theorem g_146 : gx_G1[146]? = some (2, 4, [none, some 147, some 148, none]) := rfl
theorem g_147 : gx_G1[147]? = some (50, 8, []) := rfl
theorem g_148 : gx_G1[148]? = some (50, 24, []) := rfl
theorem g_149 : gx_G1[149]? = some (6, 2, [none, some 150]) := rfl
theorem g_150 : gx_G1[150]? = some (50, 36, []) := rfl
theorem g_151 : gx_G1[151]? = some (5, 10, [none, none, none, some 152, some 153, some 154, some 155, some 156, some 157, some 158]) := rfl
theorem g_152 : gx_G1[152]? = some (50, 4, []) := rfl
theorem g_153 : gx_G1[153]? = some (50, 40, []) := rfl
theorem g_154 : gx_G1[154]? = some (50, 40, []) := rfl
theorem g_155 : gx_G1[155]? = some (50, 6, []) := rfl
theorem g_156 : gx_G1[156]? = some (50, 6, []) := rfl
theorem g_157 : gx_G1[157]? = some (50, 6, []) := rfl
theorem g_158 : gx_G1[158]? = some (50, 6, []) := rfl
theorem g_159 : gx_G1[159]? = some (2, 4, [none, some 160, some 161, none]) := rfl
theorem g_160 : gx_G1[160]? = some (50, 40, []) := rfl
theorem g_161 : gx_G1[161]? = some (50, 120, []) := rfl
theorem g_162 : gx_G1[162]? = some (2, 4, [none, some 163, some 164, none]) := rfl
theorem g_163 : gx_G1[163]? = some (50, 8, []) := rfl
theorem g_164 : gx_G1[164]? = some (50, 24, []) := rfl
theorem g_165 : gx_G1[165]? = some (6, 2, [none, some 166]) := rfl
theorem g_166 : gx_G1[166]? = some (50, 36, []) := rfl
theorem g_167 : gx_G1[167]? = some (9, 9, [some 168, some 169, some 170, some 171, some 172, some 173, none, none, none]) := rfl
theorem g_168 : gx_G1[168]? = some (50, 4, []) := rfl
theorem g_169 : gx_G1[169]? = some (54, 2, [some 174, some 190]) := rfl
theorem g_170 : gx_G1[170]? = some (55, 2, [some 182, some 198]) := rfl
theorem g_171 : gx_G1[171]? = some (55, 2, [some 185, some 201]) := rfl
theorem g_172 : gx_G1[172]? = some (56, 2, [some 188, some 204]) := rfl
theorem g_173 : gx_G1[173]? = some (51, 600, []) := rfl
theorem g_174 : gx_G1[174]? = some (5, 10, [none, none, none, some 175, some 176, some 177, some 178, some 179, some 180, some 181]) := rfl
theorem g_175 : gx_G1[175]? = some (50, 4, []) := rfl
theorem g_176 : gx_G1[176]? = some (50, 40, []) := rfl
theorem g_177 : gx_G1[177]? = some (50, 40, []) := rfl
theorem g_178 : gx_G1[178]? = some (50, 6, []) := rfl
theorem g_179 : gx_G1[179]? = some (50, 6, []) := rfl
theorem g_180 : gx_G1[180]? = some (50, 6, []) := rfl
theorem g_181 : gx_G1[181]? = some (50, 6, []) := rfl
theorem g_182 : gx_G1[182]? = some (2, 4, [none, some 183, some 184, none]) := rfl
theorem g_183 : gx_G1[183]? = some (50, 40, []) := rfl
theorem g_184 : gx_G1[184]? = some (50, 120, []) := rfl
theorem g_185 : gx_G1[185]? = some (2, 4, [none, some 186, some 187, none]) := rfl
theorem g_186 : gx_G1[186]? = some (50, 8, []) := rfl
theorem g_187 : gx_G1[187]? = some (50, 24, []) := rfl
theorem g_188 : gx_G1[188]? = some (6, 2, [none, some 189]) := rfl
theorem g_189 : gx_G1[189]? = some (50, 36, []) := rfl
theorem g_190 : gx_G1[190]? = some (5, 10, [none, none, none, some 191, some 192, some 193, some 194, some 195, some 196, some 197]) := rfl
theorem g_191 : gx_G1[191]? = some (50, 4, []) := rfl
theorem g_192 : gx_G1[192]? = some (50, 40, []) := rfl
theorem g_193 : gx_G1[193]? = some (50, 40, []) := rfl
theorem g_194 : gx_G1[194]? = some (50, 6, []) := rfl
theorem g_195 : gx_G1[195]? = some (50, 6, []) := rfl
theorem g_196 : gx_G1[196]? = some (50, 6, []) := rfl
theorem g_197 : gx_G1[197]? = some (50, 6, []) := rfl
theorem g_198 : gx_G1[198]? = some (2, 4, [none, some 199, some 200, none]) := rfl
theorem g_199 : gx_G1[199]? = some (50, 40, []) := rfl
theorem g_200 : gx_G1[200]? = some (50, 120, []) := rfl
theorem g_201 : gx_G1[201]? = some (2, 4, [none, some 202, some 203, none]) := rfl
theorem g_202 : gx_G1[202]? = some (50, 8, []) := rfl
theorem g_203 : gx_G1[203]? = some (50, 24, []) := rfl
theorem g_204 : gx_G1[204]? = some (6, 2, [none, some 205]) := rfl
theorem g_205 : gx_G1[205]? = some (50, 36, []) := rfl
theorem g_206 : gx_G1[206]? = some (12, 57, [none, some 207, some 208, some 209, some 210, some 211, some 212, some 213, some 214, some 215, none, none, none, none, none, none, none, none, none, some 216, some 217, none, none, none, none, none, none, none, some 218, some 219, some 220, some 221, some 222, none, none, some 223, some 224, some 225, none, some 226, some 227, none, some 228, some 229, none, some 230, none, some 231, none, none, none, none, some 232, some 233, some 234, none, some 235]) := rfl
theorem g_207 : gx_G1[207]? = some (51, 2400, []) := rfl
theorem g_208 : gx_G1[208]? = some (50, 4, []) := rfl
theorem g_209 : gx_G1[209]? = some (50, 4, []) := rfl
theorem g_210 : gx_G1[210]? = some (50, 4, []) := rfl
theorem g_211 : gx_G1[211]? = some (50, 16, []) := rfl
theorem g_212 : gx_G1[212]? = some (50, 888, []) := rfl
theorem g_213 : gx_G1[213]? = some (50, 1288, []) := rfl
theorem g_214 : gx_G1[214]? = some (50, 136, []) := rfl
theorem g_215 : gx_G1[215]? = some (50, 296, []) := rfl
theorem g_216 : gx_G1[216]? = some (50, 161, []) := rfl
theorem g_217 : gx_G1[217]? = some (50, 5, []) := rfl
theorem g_218 : gx_G1[218]? = some (50, 4, []) := rfl
theorem g_219 : gx_G1[219]? = some (50, 40, []) := rfl
theorem g_220 : gx_G1[220]? = some (50, 40, []) := rfl
theorem g_221 : gx_G1[221]? = some (52, 40, []) := rfl
theorem g_222 : gx_G1[222]? = some (50, 6, []) := rfl
theorem g_223 : gx_G1[223]? = some (50, 4, []) := rfl
theorem g_224 : gx_G1[224]? = some (50, 40, []) := rfl
theorem g_225 : gx_G1[225]? = some (50, 6, []) := rfl
theorem g_226 : gx_G1[226]? = some (50, 2624, []) := rfl
theorem g_227 : gx_G1[227]? = some (50, 240, []) := rfl
theorem g_228 : gx_G1[228]? = some (50, 41, []) := rfl
theorem g_229 : gx_G1[229]? = some (53, 240, []) := rfl
theorem g_230 : gx_G1[230]? = some (50, 3, []) := rfl
theorem g_231 : gx_G1[231]? = some (50, 820, []) := rfl
theorem g_232 : gx_G1[232]? = some (50, 6, []) := rfl
theorem g_233 : gx_G1[233]? = some (50, 6, []) := rfl
theorem g_234 : gx_G1[234]? = some (50, 6, []) := rfl
theorem g_235 : gx_G1[235]? = some (52, 3, []) := rfl
/-! pure programs and their runs -/
def gx_lt {α : Type} {β : Type} (v : α) (f : α → β) : β := f v
def gx_ck {β : Type} (c : Prop) [Decidable c] (t : Option β) : Option β := if c then t else none
def gx_bi (b : Bool) : Int32 := if b then 1 else 0
theorem gx_bt {b : Bool} (h : b = true) : ¬ gx_bi b = 0 := by rw [h]; decide
theorem gx_bf {b : Bool} (h : ¬ b = true) : gx_bi b = 0 := by cases b <;> first | rfl | exact absurd rfl h
theorem gx_bn (b : Bool) : narrow .boolean (.int (gx_bi b)) = .int (gx_bi b) := by cases b <;> rfl
def gx_eI (x : Int32) : Option Value := some (.int x)
def gx_eB (b : Bool) : Option Value := some (.int (gx_bi b))
def gx_eL (x : Int64) : Option Value := some (.long x)
def gx_eV (_ : Unit) : Option Value := none
def gx_vpd (j : Int32) (n : Nat) : Decidable (vp_in j n) := by unfold vp_in; infer_instance
/-- fewer locals are known -/
def gx_le : List (Option Value) → List (Option Value) → Prop
  | [], _ => True
  | none :: t, l => gx_le t l.tail
  | some v :: t, l => l.head? = some (some v) ∧ gx_le t l.tail
theorem gx_le_get : ∀ (a b : List (Option Value)), gx_le a b → ∀ (i : Nat) (v : Value), gx_lg a i = some v → gx_lg b i = some v
  | [], _, _, i, v, h => by simp [gx_lg] at h
  | none :: t, b, hl, 0, v, h => by simp [gx_lg] at h
  | none :: t, [], hl, i + 1, v, h => by
    have := gx_le_get t [] hl i v (by simpa [gx_lg] using h)
    simp [gx_lg] at this
  | none :: t, x :: b, hl, i + 1, v, h => gx_le_get t b hl i v (by simpa [gx_lg] using h)
  | some w :: t, [], hl, i, v, h => by simp [gx_le] at hl
  | some w :: t, x :: b, hl, 0, v, h => by
    have h1 := hl.1
    simp at h1
    subst h1
    simpa [gx_lg] using h
  | some w :: t, x :: b, hl, i + 1, v, h => gx_le_get t b hl.2 i v (by simpa [gx_lg] using h)
theorem s_wk {E : gx_E} {l : Launch} {y : gx_Y} {d pc : Nat} {ls ls' : List (Option Value)} {st : List Value} {G : gx_G} {μ : gx_M} (h : gx_le ls' ls) : gS E l y d (pc, ls, st, G, μ) (pc, ls', st, G, μ) :=
  stp_g fun _ _ _ _ _ _ _ _ _ _ _ _ _ _ _ H arr locs hl hR hS k => k H arr locs ⟨hl.1, hl.2.1, fun i v hi => hl.2.2 i v (gx_le_get ls' ls h i v hi)⟩ hR hS
section GO
variable {ρ : Type} {E : gx_E} {l : Launch} {y : gx_Y} {d : Nat} {em : ρ → Option Value} {pc pc' : Nat} {ls ls' : List (Option Value)} {st st' : List Value} {μ μ' : gx_M}
def GoP (E : gx_E) (l : Launch) (y : gx_Y) (d : Nat) (em : ρ → Option Value) (pc : Nat) (ls : List (Option Value)) (st : List Value) (μ : gx_M) (T : ρ) : Prop := gF E l y d (pc, ls, st, gx_G1, μ) (em T) gx_G1 μ
def GoR (E : gx_E) (l : Launch) (y : gx_Y) (d : Nat) (em : ρ → Option Value) (pc : Nat) (ls : List (Option Value)) (st : List Value) (μ : gx_M) (T : Option ρ) : Prop := ∀ r, T = some r → gF E l y d (pc, ls, st, gx_G1, μ) (em r) gx_G1 μ
def GoW (E : gx_E) (l : Launch) (y : gx_Y) (d : Nat) (em : ρ → Option Value) (pc : Nat) (ls : List (Option Value)) (st : List Value) (μ : gx_M) (T : Option (ρ × gx_M)) : Prop := ∀ r μ', T = some (r, μ') → gF E l y d (pc, ls, st, gx_G1, μ) (em r) gx_G1 μ'
theorem P_s {T : ρ} (h : gS E l y d (pc, ls, st, gx_G1, μ) (pc', ls', st', gx_G1, μ)) (k : GoP E l y d em pc' ls' st' μ T) : GoP E l y d em pc ls st μ T := gf_s h k
theorem R_s {T : Option ρ} (h : gS E l y d (pc, ls, st, gx_G1, μ) (pc', ls', st', gx_G1, μ)) (k : GoR E l y d em pc' ls' st' μ T) : GoR E l y d em pc ls st μ T := fun r hr => gf_s h (k r hr)
theorem W_s {T : Option (ρ × gx_M)} (h : gS E l y d (pc, ls, st, gx_G1, μ) (pc', ls', st', gx_G1, μ')) (k : GoW E l y d em pc' ls' st' μ' T) : GoW E l y d em pc ls st μ T := fun r μ2 hr => gf_s h (k r μ2 hr)
theorem P_ite {c : Prop} [Decidable c] {T1 T2 : ρ} (h1 : c → GoP E l y d em pc ls st μ T1) (h2 : ¬ c → GoP E l y d em pc ls st μ T2) : GoP E l y d em pc ls st μ (if c then T1 else T2) := by
  by_cases h : c
  · rw [if_pos h]; exact h1 h
  · rw [if_neg h]; exact h2 h
theorem R_ite {c : Prop} [Decidable c] {T1 T2 : Option ρ} (h1 : c → GoR E l y d em pc ls st μ T1) (h2 : ¬ c → GoR E l y d em pc ls st μ T2) : GoR E l y d em pc ls st μ (if c then T1 else T2) := by
  by_cases h : c
  · rw [if_pos h]; exact h1 h
  · rw [if_neg h]; exact h2 h
theorem W_ite {c : Prop} [Decidable c] {T1 T2 : Option (ρ × gx_M)} (h1 : c → GoW E l y d em pc ls st μ T1) (h2 : ¬ c → GoW E l y d em pc ls st μ T2) : GoW E l y d em pc ls st μ (if c then T1 else T2) := by
  by_cases h : c
  · rw [if_pos h]; exact h1 h
  · rw [if_neg h]; exact h2 h
theorem R_ck {c : Prop} [Decidable c] {T : Option ρ} (h : c → GoR E l y d em pc ls st μ T) : GoR E l y d em pc ls st μ (gx_ck c T) := R_ite h (fun _ r hr => by cases hr)
theorem W_ck {c : Prop} [Decidable c] {T : Option (ρ × gx_M)} (h : c → GoW E l y d em pc ls st μ T) : GoW E l y d em pc ls st μ (gx_ck c T) := W_ite h (fun _ r _ hr => by cases hr)
theorem R_no : GoR E l y d em pc ls st μ none := fun r hr => by cases hr
theorem W_no : GoW E l y d em pc ls st μ none := fun r _ hr => by cases hr
theorem P_r {r : ρ} (h : gF E l y d (pc, ls, st, gx_G1, μ) (em r) gx_G1 μ) : GoP E l y d em pc ls st μ r := h
theorem R_r {r : ρ} (h : gF E l y d (pc, ls, st, gx_G1, μ) (em r) gx_G1 μ) : GoR E l y d em pc ls st μ (some r) := fun r' hr => by cases hr; exact h
theorem W_r {r : ρ} (h : gF E l y d (pc, ls, st, gx_G1, μ) (em r) gx_G1 μ) : GoW E l y d em pc ls st μ (some (r, μ)) := fun r' _ hr => by cases hr; exact h
theorem P_letI {v : Int32} {T : Int32 → ρ} (h : ∀ x, GoP E l y d em pc ls (.int x :: st) μ (T x)) : GoP E l y d em pc ls (.int v :: st) μ (gx_lt v T) := h v
theorem R_letI {v : Int32} {T : Int32 → Option ρ} (h : ∀ x, GoR E l y d em pc ls (.int x :: st) μ (T x)) : GoR E l y d em pc ls (.int v :: st) μ (gx_lt v T) := h v
theorem W_letI {v : Int32} {T : Int32 → Option (ρ × gx_M)} (h : ∀ x, GoW E l y d em pc ls (.int x :: st) μ (T x)) : GoW E l y d em pc ls (.int v :: st) μ (gx_lt v T) := h v
theorem P_letL {v : Int64} {T : Int64 → ρ} (h : ∀ x, GoP E l y d em pc ls (.long x :: st) μ (T x)) : GoP E l y d em pc ls (.long v :: st) μ (gx_lt v T) := h v
theorem R_letL {v : Int64} {T : Int64 → Option ρ} (h : ∀ x, GoR E l y d em pc ls (.long x :: st) μ (T x)) : GoR E l y d em pc ls (.long v :: st) μ (gx_lt v T) := h v
theorem W_letL {v : Int64} {T : Int64 → Option (ρ × gx_M)} (h : ∀ x, GoW E l y d em pc ls (.long x :: st) μ (T x)) : GoW E l y d em pc ls (.long v :: st) μ (gx_lt v T) := h v
theorem P_letB {v : Bool} {T : Bool → ρ} (h : ∀ x, GoP E l y d em pc ls (.int (gx_bi x) :: st) μ (T x)) : GoP E l y d em pc ls (.int (gx_bi v) :: st) μ (gx_lt v T) := h v
theorem R_letB {v : Bool} {T : Bool → Option ρ} (h : ∀ x, GoR E l y d em pc ls (.int (gx_bi x) :: st) μ (T x)) : GoR E l y d em pc ls (.int (gx_bi v) :: st) μ (gx_lt v T) := h v
theorem W_letB {v : Bool} {T : Bool → Option (ρ × gx_M)} (h : ∀ x, GoW E l y d em pc ls (.int (gx_bi x) :: st) μ (T x)) : GoW E l y d em pc ls (.int (gx_bi v) :: st) μ (gx_lt v T) := h v
theorem W_letM {T : gx_M → Option (ρ × gx_M)} (h : ∀ x, GoW E l y d em pc ls st x (T x)) : GoW E l y d em pc ls st μ (gx_lt μ T) := h μ
theorem P_fun {α : Type} {F : α} {T : α → ρ} (C : α → Prop) (hF : C F) (h : ∀ J, C J → GoP E l y d em pc ls st μ (T J)) : GoP E l y d em pc ls st μ (gx_lt F T) := h F hF
theorem R_fun {α : Type} {F : α} {T : α → Option ρ} (C : α → Prop) (hF : C F) (h : ∀ J, C J → GoR E l y d em pc ls st μ (T J)) : GoR E l y d em pc ls st μ (gx_lt F T) := h F hF
theorem W_fun {α : Type} {F : α} {T : α → Option (ρ × gx_M)} (C : α → Prop) (hF : C F) (h : ∀ J, C J → GoW E l y d em pc ls st μ (T J)) : GoW E l y d em pc ls st μ (gx_lt F T) := h F hF
/-- calls that may fail, and calls that write -/
theorem R_call {σ : Type} {t : Option σ} {ec : σ → Option Value} {T : σ → Option ρ} (h : ∀ r, t = some r → gS E l y d (pc, ls, st, gx_G1, μ) (pc', ls, (ec r).toList ++ st', gx_G1, μ)) (k : ∀ r, GoR E l y d em pc' ls ((ec r).toList ++ st') μ (T r)) : GoR E l y d em pc ls st μ (t.bind T) := fun r hr => by
  cases ht : t with
  | none => rw [ht] at hr; cases hr
  | some v => rw [ht] at hr; exact gf_s (h v ht) (k v r hr)
theorem W_callR {σ : Type} {t : Option σ} {ec : σ → Option Value} {T : σ → Option (ρ × gx_M)} (h : ∀ r, t = some r → gS E l y d (pc, ls, st, gx_G1, μ) (pc', ls, (ec r).toList ++ st', gx_G1, μ)) (k : ∀ r, GoW E l y d em pc' ls ((ec r).toList ++ st') μ (T r)) : GoW E l y d em pc ls st μ (t.bind T) := fun r μ2 hr => by
  cases ht : t with
  | none => rw [ht] at hr; cases hr
  | some v => rw [ht] at hr; exact gf_s (h v ht) (k v r μ2 hr)
theorem W_call {σ : Type} {t : Option (σ × gx_M)} {ec : σ → Option Value} {T : σ → gx_M → Option (ρ × gx_M)} (h : ∀ r μ1, t = some (r, μ1) → gS E l y d (pc, ls, st, gx_G1, μ) (pc', ls, (ec r).toList ++ st', gx_G1, μ1)) (k : ∀ r μ1, GoW E l y d em pc' ls ((ec r).toList ++ st') μ1 (T r μ1)) : GoW E l y d em pc ls st μ (t.bind fun q => T q.1 q.2) := fun r μ2 hr => by
  cases ht : t with
  | none => rw [ht] at hr; cases hr
  | some v => rw [ht] at hr; obtain ⟨v, w⟩ := v; exact gf_s (h v w ht) (k v w r μ2 hr)
theorem P_ev {as : List Value} {T : ρ} (hp : plainName y.1.cls = true) (hn : (lg_sl as).length ≤ y.2.2.1) (h : GoP E l y d em 0 (gx_el as) [] μ T) : gEv E l d y as gx_G1 μ (em T) gx_G1 μ := gev_of hp hn h
theorem R_ev {as : List Value} {T : Option ρ} (hp : plainName y.1.cls = true) (hn : (lg_sl as).length ≤ y.2.2.1) (h : GoR E l y d em 0 (gx_el as) [] μ T) {r : ρ} (hr : T = some r) : gEv E l d y as gx_G1 μ (em r) gx_G1 μ := gev_of hp hn (h r hr)
theorem W_ev {as : List Value} {T : Option (ρ × gx_M)} (hp : plainName y.1.cls = true) (hn : (lg_sl as).length ≤ y.2.2.1) (h : GoW E l y d em 0 (gx_el as) [] μ T) {r : ρ} {μ' : gx_M} (hr : T = some (r, μ')) : gEv E l d y as gx_G1 μ (em r) gx_G1 μ' := gev_of hp hn (h r μ' hr)
end GO
