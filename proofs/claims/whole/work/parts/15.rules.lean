/-! the layout behind the constructors; the rules by which a printed function is the code (wip/whole/gen_rules.py) -/
def SHF : List Shp := [(21, 7, [some 1, some 47, some 186, some 187, some 191, some 200, some 208]), (18, 4, [some 2, some 22, some 31, some 42]), (13, 18, [none, none, some 3, some 4, some 5, some 6, none, some 9, some 10, some 11, some 12, some 13, some 14, some 15, some 16, some 19, some 20, some 21]), (0, 10, []), (0, 10, []), (0, 10, []), (4, 2, [some 7, some 8]), (0, 10, []), (0, 10, []), (0, 14, []), (0, 14, []), (0, 14, []), (0, 14, []), (0, 14, []), (0, 14, []), (2, 14, []), (4, 2, [some 17, some 18]), (0, 126, []), (0, 126, []), (0, 2, []), (0, 2, []), (0, 2, []), (16, 10, [some 23, none, some 24, some 25, some 26, some 27, some 28, some 29, none, some 30]), (0, 8, []), (0, 120, []), (0, 120, []), (0, 120, []), (0, 120, []), (0, 120, []), (0, 120, []), (1, 2400, []), (11, 6, [none, some 32, none, none, some 33, some 41]), (1, 500, []), (12, 8, [none, some 34, some 35, some 36, some 37, some 38, some 39, some 40]), (0, 16, []), (0, 16, []), (0, 16, []), (2, 64, []), (0, 64, []), (0, 64, []), (0, 64, []), (2, 100, []), (10, 5, [none, some 43, some 44, some 45, some 46]), (0, 150, []), (0, 150, []), (0, 150, []), (0, 150, []), (3, 3, [some 48, some 94, some 140]), (18, 4, [some 49, some 69, some 78, some 89]), (13, 18, [none, none, some 50, some 51, some 52, some 53, none, some 56, some 57, some 58, some 59, some 60, some 61, some 62, some 63, some 66, some 67, some 68]), (0, 10, []), (0, 10, []), (0, 10, []), (4, 2, [some 54, some 55]), (0, 10, []), (0, 10, []), (0, 14, []), (0, 14, []), (0, 14, []), (0, 14, []), (0, 14, []), (0, 14, []), (2, 14, []), (4, 2, [some 64, some 65]), (0, 126, []), (0, 126, []), (0, 2, []), (0, 2, []), (0, 2, []), (16, 10, [some 70, none, some 71, some 72, some 73, some 74, some 75, some 76, none, some 77]), (0, 8, []), (0, 120, []), (0, 120, []), (0, 120, []), (0, 120, []), (0, 120, []), (0, 120, []), (1, 2400, []), (11, 6, [none, some 79, none, none, some 80, some 88]), (1, 500, []), (12, 8, [none, some 81, some 82, some 83, some 84, some 85, some 86, some 87]), (0, 16, []), (0, 16, []), (0, 16, []), (2, 64, []), (0, 64, []), (0, 64, []), (0, 64, []), (2, 100, []), (10, 5, [none, some 90, some 91, some 92, some 93]), (0, 150, []), (0, 150, []), (0, 150, []), (0, 150, []), (18, 4, [some 95, some 115, some 124, some 135]), (13, 18, [none, none, some 96, some 97, some 98, some 99, none, some 102, some 103, some 104, some 105, some 106, some 107, some 108, some 109, some 112, some 113, some 114]), (0, 10, []), (0, 10, []), (0, 10, []), (4, 2, [some 100, some 101]), (0, 10, []), (0, 10, []), (0, 14, []), (0, 14, []), (0, 14, []), (0, 14, []), (0, 14, []), (0, 14, []), (2, 14, []), (4, 2, [some 110, some 111]), (0, 126, []), (0, 126, []), (0, 2, []), (0, 2, []), (0, 2, []), (16, 10, [some 116, none, some 117, some 118, some 119, some 120, some 121, some 122, none, some 123]), (0, 8, []), (0, 120, []), (0, 120, []), (0, 120, []), (0, 120, []), (0, 120, []), (0, 120, []), (1, 2400, []), (11, 6, [none, some 125, none, none, some 126, some 134]), (1, 500, []), (12, 8, [none, some 127, some 128, some 129, some 130, some 131, some 132, some 133]), (0, 16, []), (0, 16, []), (0, 16, []), (2, 64, []), (0, 64, []), (0, 64, []), (0, 64, []), (2, 100, []), (10, 5, [none, some 136, some 137, some 138, some 139]), (0, 150, []), (0, 150, []), (0, 150, []), (0, 150, []), (18, 4, [some 141, some 161, some 170, some 181]), (13, 18, [none, none, some 142, some 143, some 144, some 145, none, some 148, some 149, some 150, some 151, some 152, some 153, some 154, some 155, some 158, some 159, some 160]), (0, 10, []), (0, 10, []), (0, 10, []), (4, 2, [some 146, some 147]), (0, 10, []), (0, 10, []), (0, 14, []), (0, 14, []), (0, 14, []), (0, 14, []), (0, 14, []), (0, 14, []), (2, 14, []), (4, 2, [some 156, some 157]), (0, 126, []), (0, 126, []), (0, 2, []), (0, 2, []), (0, 2, []), (16, 10, [some 162, none, some 163, some 164, some 165, some 166, some 167, some 168, none, some 169]), (0, 8, []), (0, 120, []), (0, 120, []), (0, 120, []), (0, 120, []), (0, 120, []), (0, 120, []), (1, 2400, []), (11, 6, [none, some 171, none, none, some 172, some 180]), (1, 500, []), (12, 8, [none, some 173, some 174, some 175, some 176, some 177, some 178, some 179]), (0, 16, []), (0, 16, []), (0, 16, []), (2, 64, []), (0, 64, []), (0, 64, []), (0, 64, []), (2, 100, []), (10, 5, [none, some 182, some 183, some 184, some 185]), (0, 150, []), (0, 150, []), (0, 150, []), (0, 150, []), (2, 3, []), (20, 4, [some 188, some 189, some 190, none]), (0, 10, []), (0, 10, []), (0, 10, []), (14, 11, [some 192, none, none, none, none, none, none, none, none, none, none]), (12, 8, [none, some 193, some 194, some 195, some 196, some 197, some 198, some 199]), (0, 16, []), (0, 16, []), (0, 16, []), (2, 64, []), (0, 64, []), (0, 64, []), (0, 64, []), (15, 8, [some 201, some 202, some 203, some 204, some 205, some 206, some 207, none]), (0, 8, []), (0, 8, []), (0, 8, []), (0, 8, []), (0, 8, []), (0, 8, []), (0, 168, []), (19, 14, [none, none, none, none, none, none, none, none, some 209, some 210, some 211, some 212, some 213, some 214]), (0, 4, []), (0, 8, []), (0, 8, []), (0, 4, []), (0, 4, []), (0, 4, []), (22, 33, [some 216, some 217, some 218, none, none, none, none, none, none, none, none, none, some 219, some 220, none, none, none, none, none, none, some 221, some 222, some 223, some 224, some 225, some 226, some 227, some 228, some 229, some 230, none, none, none]), (0, 20360, []), (2, 3, []), (0, 10, []), (0, 320, []), (0, 4, []), (0, 8, []), (0, 8, []), (0, 4, []), (0, 8, []), (0, 8, []), (0, 36, []), (0, 36, []), (0, 36, []), (0, 9, []), (0, 9, [])]
theorem sh_0 : SHF[0]? = some (21, 7, [some 1, some 47, some 186, some 187, some 191, some 200, some 208]) := rfl
theorem sh_1 : SHF[1]? = some (18, 4, [some 2, some 22, some 31, some 42]) := rfl
theorem sh_2 : SHF[2]? = some (13, 18, [none, none, some 3, some 4, some 5, some 6, none, some 9, some 10, some 11, some 12, some 13, some 14, some 15, some 16, some 19, some 20, some 21]) := rfl
theorem sh_3 : SHF[3]? = some (0, 10, []) := rfl
theorem sh_4 : SHF[4]? = some (0, 10, []) := rfl
theorem sh_5 : SHF[5]? = some (0, 10, []) := rfl
theorem sh_6 : SHF[6]? = some (4, 2, [some 7, some 8]) := rfl
theorem sh_7 : SHF[7]? = some (0, 10, []) := rfl
theorem sh_8 : SHF[8]? = some (0, 10, []) := rfl
theorem sh_9 : SHF[9]? = some (0, 14, []) := rfl
theorem sh_10 : SHF[10]? = some (0, 14, []) := rfl
theorem sh_11 : SHF[11]? = some (0, 14, []) := rfl
theorem sh_12 : SHF[12]? = some (0, 14, []) := rfl
theorem sh_13 : SHF[13]? = some (0, 14, []) := rfl
theorem sh_14 : SHF[14]? = some (0, 14, []) := rfl
theorem sh_15 : SHF[15]? = some (2, 14, []) := rfl
theorem sh_16 : SHF[16]? = some (4, 2, [some 17, some 18]) := rfl
theorem sh_17 : SHF[17]? = some (0, 126, []) := rfl
theorem sh_18 : SHF[18]? = some (0, 126, []) := rfl
theorem sh_19 : SHF[19]? = some (0, 2, []) := rfl
theorem sh_20 : SHF[20]? = some (0, 2, []) := rfl
theorem sh_21 : SHF[21]? = some (0, 2, []) := rfl
theorem sh_22 : SHF[22]? = some (16, 10, [some 23, none, some 24, some 25, some 26, some 27, some 28, some 29, none, some 30]) := rfl
theorem sh_23 : SHF[23]? = some (0, 8, []) := rfl
theorem sh_24 : SHF[24]? = some (0, 120, []) := rfl
theorem sh_25 : SHF[25]? = some (0, 120, []) := rfl
theorem sh_26 : SHF[26]? = some (0, 120, []) := rfl
theorem sh_27 : SHF[27]? = some (0, 120, []) := rfl
theorem sh_28 : SHF[28]? = some (0, 120, []) := rfl
theorem sh_29 : SHF[29]? = some (0, 120, []) := rfl
theorem sh_30 : SHF[30]? = some (1, 2400, []) := rfl
theorem sh_31 : SHF[31]? = some (11, 6, [none, some 32, none, none, some 33, some 41]) := rfl
theorem sh_32 : SHF[32]? = some (1, 500, []) := rfl
theorem sh_33 : SHF[33]? = some (12, 8, [none, some 34, some 35, some 36, some 37, some 38, some 39, some 40]) := rfl
theorem sh_34 : SHF[34]? = some (0, 16, []) := rfl
theorem sh_35 : SHF[35]? = some (0, 16, []) := rfl
theorem sh_36 : SHF[36]? = some (0, 16, []) := rfl
theorem sh_37 : SHF[37]? = some (2, 64, []) := rfl
theorem sh_38 : SHF[38]? = some (0, 64, []) := rfl
theorem sh_39 : SHF[39]? = some (0, 64, []) := rfl
theorem sh_40 : SHF[40]? = some (0, 64, []) := rfl
theorem sh_41 : SHF[41]? = some (2, 100, []) := rfl
theorem sh_42 : SHF[42]? = some (10, 5, [none, some 43, some 44, some 45, some 46]) := rfl
theorem sh_43 : SHF[43]? = some (0, 150, []) := rfl
theorem sh_44 : SHF[44]? = some (0, 150, []) := rfl
theorem sh_45 : SHF[45]? = some (0, 150, []) := rfl
theorem sh_46 : SHF[46]? = some (0, 150, []) := rfl
theorem sh_47 : SHF[47]? = some (3, 3, [some 48, some 94, some 140]) := rfl
theorem sh_48 : SHF[48]? = some (18, 4, [some 49, some 69, some 78, some 89]) := rfl
theorem sh_49 : SHF[49]? = some (13, 18, [none, none, some 50, some 51, some 52, some 53, none, some 56, some 57, some 58, some 59, some 60, some 61, some 62, some 63, some 66, some 67, some 68]) := rfl
theorem sh_50 : SHF[50]? = some (0, 10, []) := rfl
theorem sh_51 : SHF[51]? = some (0, 10, []) := rfl
theorem sh_52 : SHF[52]? = some (0, 10, []) := rfl
theorem sh_53 : SHF[53]? = some (4, 2, [some 54, some 55]) := rfl
theorem sh_54 : SHF[54]? = some (0, 10, []) := rfl
theorem sh_55 : SHF[55]? = some (0, 10, []) := rfl
theorem sh_56 : SHF[56]? = some (0, 14, []) := rfl
theorem sh_57 : SHF[57]? = some (0, 14, []) := rfl
theorem sh_58 : SHF[58]? = some (0, 14, []) := rfl
theorem sh_59 : SHF[59]? = some (0, 14, []) := rfl
theorem sh_60 : SHF[60]? = some (0, 14, []) := rfl
theorem sh_61 : SHF[61]? = some (0, 14, []) := rfl
theorem sh_62 : SHF[62]? = some (2, 14, []) := rfl
theorem sh_63 : SHF[63]? = some (4, 2, [some 64, some 65]) := rfl
theorem sh_64 : SHF[64]? = some (0, 126, []) := rfl
theorem sh_65 : SHF[65]? = some (0, 126, []) := rfl
theorem sh_66 : SHF[66]? = some (0, 2, []) := rfl
theorem sh_67 : SHF[67]? = some (0, 2, []) := rfl
theorem sh_68 : SHF[68]? = some (0, 2, []) := rfl
theorem sh_69 : SHF[69]? = some (16, 10, [some 70, none, some 71, some 72, some 73, some 74, some 75, some 76, none, some 77]) := rfl
theorem sh_70 : SHF[70]? = some (0, 8, []) := rfl
theorem sh_71 : SHF[71]? = some (0, 120, []) := rfl
theorem sh_72 : SHF[72]? = some (0, 120, []) := rfl
theorem sh_73 : SHF[73]? = some (0, 120, []) := rfl
theorem sh_74 : SHF[74]? = some (0, 120, []) := rfl
theorem sh_75 : SHF[75]? = some (0, 120, []) := rfl
theorem sh_76 : SHF[76]? = some (0, 120, []) := rfl
theorem sh_77 : SHF[77]? = some (1, 2400, []) := rfl
theorem sh_78 : SHF[78]? = some (11, 6, [none, some 79, none, none, some 80, some 88]) := rfl
theorem sh_79 : SHF[79]? = some (1, 500, []) := rfl
theorem sh_80 : SHF[80]? = some (12, 8, [none, some 81, some 82, some 83, some 84, some 85, some 86, some 87]) := rfl
theorem sh_81 : SHF[81]? = some (0, 16, []) := rfl
theorem sh_82 : SHF[82]? = some (0, 16, []) := rfl
theorem sh_83 : SHF[83]? = some (0, 16, []) := rfl
theorem sh_84 : SHF[84]? = some (2, 64, []) := rfl
theorem sh_85 : SHF[85]? = some (0, 64, []) := rfl
theorem sh_86 : SHF[86]? = some (0, 64, []) := rfl
theorem sh_87 : SHF[87]? = some (0, 64, []) := rfl
theorem sh_88 : SHF[88]? = some (2, 100, []) := rfl
theorem sh_89 : SHF[89]? = some (10, 5, [none, some 90, some 91, some 92, some 93]) := rfl
theorem sh_90 : SHF[90]? = some (0, 150, []) := rfl
theorem sh_91 : SHF[91]? = some (0, 150, []) := rfl
theorem sh_92 : SHF[92]? = some (0, 150, []) := rfl
theorem sh_93 : SHF[93]? = some (0, 150, []) := rfl
theorem sh_94 : SHF[94]? = some (18, 4, [some 95, some 115, some 124, some 135]) := rfl
theorem sh_95 : SHF[95]? = some (13, 18, [none, none, some 96, some 97, some 98, some 99, none, some 102, some 103, some 104, some 105, some 106, some 107, some 108, some 109, some 112, some 113, some 114]) := rfl
theorem sh_96 : SHF[96]? = some (0, 10, []) := rfl
theorem sh_97 : SHF[97]? = some (0, 10, []) := rfl
theorem sh_98 : SHF[98]? = some (0, 10, []) := rfl
theorem sh_99 : SHF[99]? = some (4, 2, [some 100, some 101]) := rfl
theorem sh_100 : SHF[100]? = some (0, 10, []) := rfl
theorem sh_101 : SHF[101]? = some (0, 10, []) := rfl
theorem sh_102 : SHF[102]? = some (0, 14, []) := rfl
theorem sh_103 : SHF[103]? = some (0, 14, []) := rfl
theorem sh_104 : SHF[104]? = some (0, 14, []) := rfl
theorem sh_105 : SHF[105]? = some (0, 14, []) := rfl
theorem sh_106 : SHF[106]? = some (0, 14, []) := rfl
theorem sh_107 : SHF[107]? = some (0, 14, []) := rfl
theorem sh_108 : SHF[108]? = some (2, 14, []) := rfl
theorem sh_109 : SHF[109]? = some (4, 2, [some 110, some 111]) := rfl
theorem sh_110 : SHF[110]? = some (0, 126, []) := rfl
theorem sh_111 : SHF[111]? = some (0, 126, []) := rfl
theorem sh_112 : SHF[112]? = some (0, 2, []) := rfl
theorem sh_113 : SHF[113]? = some (0, 2, []) := rfl
theorem sh_114 : SHF[114]? = some (0, 2, []) := rfl
theorem sh_115 : SHF[115]? = some (16, 10, [some 116, none, some 117, some 118, some 119, some 120, some 121, some 122, none, some 123]) := rfl
theorem sh_116 : SHF[116]? = some (0, 8, []) := rfl
theorem sh_117 : SHF[117]? = some (0, 120, []) := rfl
theorem sh_118 : SHF[118]? = some (0, 120, []) := rfl
theorem sh_119 : SHF[119]? = some (0, 120, []) := rfl
theorem sh_120 : SHF[120]? = some (0, 120, []) := rfl
theorem sh_121 : SHF[121]? = some (0, 120, []) := rfl
theorem sh_122 : SHF[122]? = some (0, 120, []) := rfl
theorem sh_123 : SHF[123]? = some (1, 2400, []) := rfl
theorem sh_124 : SHF[124]? = some (11, 6, [none, some 125, none, none, some 126, some 134]) := rfl
theorem sh_125 : SHF[125]? = some (1, 500, []) := rfl
theorem sh_126 : SHF[126]? = some (12, 8, [none, some 127, some 128, some 129, some 130, some 131, some 132, some 133]) := rfl
theorem sh_127 : SHF[127]? = some (0, 16, []) := rfl
theorem sh_128 : SHF[128]? = some (0, 16, []) := rfl
theorem sh_129 : SHF[129]? = some (0, 16, []) := rfl
theorem sh_130 : SHF[130]? = some (2, 64, []) := rfl
theorem sh_131 : SHF[131]? = some (0, 64, []) := rfl
theorem sh_132 : SHF[132]? = some (0, 64, []) := rfl
theorem sh_133 : SHF[133]? = some (0, 64, []) := rfl
theorem sh_134 : SHF[134]? = some (2, 100, []) := rfl
theorem sh_135 : SHF[135]? = some (10, 5, [none, some 136, some 137, some 138, some 139]) := rfl
theorem sh_136 : SHF[136]? = some (0, 150, []) := rfl
theorem sh_137 : SHF[137]? = some (0, 150, []) := rfl
theorem sh_138 : SHF[138]? = some (0, 150, []) := rfl
theorem sh_139 : SHF[139]? = some (0, 150, []) := rfl
theorem sh_140 : SHF[140]? = some (18, 4, [some 141, some 161, some 170, some 181]) := rfl
theorem sh_141 : SHF[141]? = some (13, 18, [none, none, some 142, some 143, some 144, some 145, none, some 148, some 149, some 150, some 151, some 152, some 153, some 154, some 155, some 158, some 159, some 160]) := rfl
theorem sh_142 : SHF[142]? = some (0, 10, []) := rfl
theorem sh_143 : SHF[143]? = some (0, 10, []) := rfl
theorem sh_144 : SHF[144]? = some (0, 10, []) := rfl
theorem sh_145 : SHF[145]? = some (4, 2, [some 146, some 147]) := rfl
theorem sh_146 : SHF[146]? = some (0, 10, []) := rfl
theorem sh_147 : SHF[147]? = some (0, 10, []) := rfl
theorem sh_148 : SHF[148]? = some (0, 14, []) := rfl
theorem sh_149 : SHF[149]? = some (0, 14, []) := rfl
theorem sh_150 : SHF[150]? = some (0, 14, []) := rfl
theorem sh_151 : SHF[151]? = some (0, 14, []) := rfl
theorem sh_152 : SHF[152]? = some (0, 14, []) := rfl
theorem sh_153 : SHF[153]? = some (0, 14, []) := rfl
theorem sh_154 : SHF[154]? = some (2, 14, []) := rfl
theorem sh_155 : SHF[155]? = some (4, 2, [some 156, some 157]) := rfl
theorem sh_156 : SHF[156]? = some (0, 126, []) := rfl
theorem sh_157 : SHF[157]? = some (0, 126, []) := rfl
theorem sh_158 : SHF[158]? = some (0, 2, []) := rfl
theorem sh_159 : SHF[159]? = some (0, 2, []) := rfl
theorem sh_160 : SHF[160]? = some (0, 2, []) := rfl
theorem sh_161 : SHF[161]? = some (16, 10, [some 162, none, some 163, some 164, some 165, some 166, some 167, some 168, none, some 169]) := rfl
theorem sh_162 : SHF[162]? = some (0, 8, []) := rfl
theorem sh_163 : SHF[163]? = some (0, 120, []) := rfl
theorem sh_164 : SHF[164]? = some (0, 120, []) := rfl
theorem sh_165 : SHF[165]? = some (0, 120, []) := rfl
theorem sh_166 : SHF[166]? = some (0, 120, []) := rfl
theorem sh_167 : SHF[167]? = some (0, 120, []) := rfl
theorem sh_168 : SHF[168]? = some (0, 120, []) := rfl
theorem sh_169 : SHF[169]? = some (1, 2400, []) := rfl
theorem sh_170 : SHF[170]? = some (11, 6, [none, some 171, none, none, some 172, some 180]) := rfl
theorem sh_171 : SHF[171]? = some (1, 500, []) := rfl
theorem sh_172 : SHF[172]? = some (12, 8, [none, some 173, some 174, some 175, some 176, some 177, some 178, some 179]) := rfl
theorem sh_173 : SHF[173]? = some (0, 16, []) := rfl
theorem sh_174 : SHF[174]? = some (0, 16, []) := rfl
theorem sh_175 : SHF[175]? = some (0, 16, []) := rfl
theorem sh_176 : SHF[176]? = some (2, 64, []) := rfl
theorem sh_177 : SHF[177]? = some (0, 64, []) := rfl
theorem sh_178 : SHF[178]? = some (0, 64, []) := rfl
theorem sh_179 : SHF[179]? = some (0, 64, []) := rfl
theorem sh_180 : SHF[180]? = some (2, 100, []) := rfl
theorem sh_181 : SHF[181]? = some (10, 5, [none, some 182, some 183, some 184, some 185]) := rfl
theorem sh_182 : SHF[182]? = some (0, 150, []) := rfl
theorem sh_183 : SHF[183]? = some (0, 150, []) := rfl
theorem sh_184 : SHF[184]? = some (0, 150, []) := rfl
theorem sh_185 : SHF[185]? = some (0, 150, []) := rfl
theorem sh_186 : SHF[186]? = some (2, 3, []) := rfl
theorem sh_187 : SHF[187]? = some (20, 4, [some 188, some 189, some 190, none]) := rfl
theorem sh_188 : SHF[188]? = some (0, 10, []) := rfl
theorem sh_189 : SHF[189]? = some (0, 10, []) := rfl
theorem sh_190 : SHF[190]? = some (0, 10, []) := rfl
theorem sh_191 : SHF[191]? = some (14, 11, [some 192, none, none, none, none, none, none, none, none, none, none]) := rfl
theorem sh_192 : SHF[192]? = some (12, 8, [none, some 193, some 194, some 195, some 196, some 197, some 198, some 199]) := rfl
theorem sh_193 : SHF[193]? = some (0, 16, []) := rfl
theorem sh_194 : SHF[194]? = some (0, 16, []) := rfl
theorem sh_195 : SHF[195]? = some (0, 16, []) := rfl
theorem sh_196 : SHF[196]? = some (2, 64, []) := rfl
theorem sh_197 : SHF[197]? = some (0, 64, []) := rfl
theorem sh_198 : SHF[198]? = some (0, 64, []) := rfl
theorem sh_199 : SHF[199]? = some (0, 64, []) := rfl
theorem sh_200 : SHF[200]? = some (15, 8, [some 201, some 202, some 203, some 204, some 205, some 206, some 207, none]) := rfl
theorem sh_201 : SHF[201]? = some (0, 8, []) := rfl
theorem sh_202 : SHF[202]? = some (0, 8, []) := rfl
theorem sh_203 : SHF[203]? = some (0, 8, []) := rfl
theorem sh_204 : SHF[204]? = some (0, 8, []) := rfl
theorem sh_205 : SHF[205]? = some (0, 8, []) := rfl
theorem sh_206 : SHF[206]? = some (0, 8, []) := rfl
theorem sh_207 : SHF[207]? = some (0, 168, []) := rfl
theorem sh_208 : SHF[208]? = some (19, 14, [none, none, none, none, none, none, none, none, some 209, some 210, some 211, some 212, some 213, some 214]) := rfl
theorem sh_209 : SHF[209]? = some (0, 4, []) := rfl
theorem sh_210 : SHF[210]? = some (0, 8, []) := rfl
theorem sh_211 : SHF[211]? = some (0, 8, []) := rfl
theorem sh_212 : SHF[212]? = some (0, 4, []) := rfl
theorem sh_213 : SHF[213]? = some (0, 4, []) := rfl
theorem sh_214 : SHF[214]? = some (0, 4, []) := rfl
theorem sh_215 : SHF[215]? = some (22, 33, [some 216, some 217, some 218, none, none, none, none, none, none, none, none, none, some 219, some 220, none, none, none, none, none, none, some 221, some 222, some 223, some 224, some 225, some 226, some 227, some 228, some 229, some 230, none, none, none]) := rfl
theorem sh_216 : SHF[216]? = some (0, 20360, []) := rfl
theorem sh_217 : SHF[217]? = some (2, 3, []) := rfl
theorem sh_218 : SHF[218]? = some (0, 10, []) := rfl
theorem sh_219 : SHF[219]? = some (0, 320, []) := rfl
theorem sh_220 : SHF[220]? = some (0, 4, []) := rfl
theorem sh_221 : SHF[221]? = some (0, 8, []) := rfl
theorem sh_222 : SHF[222]? = some (0, 8, []) := rfl
theorem sh_223 : SHF[223]? = some (0, 4, []) := rfl
theorem sh_224 : SHF[224]? = some (0, 8, []) := rfl
theorem sh_225 : SHF[225]? = some (0, 8, []) := rfl
theorem sh_226 : SHF[226]? = some (0, 36, []) := rfl
theorem sh_227 : SHF[227]? = some (0, 36, []) := rfl
theorem sh_228 : SHF[228]? = some (0, 36, []) := rfl
theorem sh_229 : SHF[229]? = some (0, 9, []) := rfl
theorem sh_230 : SHF[230]? = some (0, 9, []) := rfl

def Lt {ρ : Type} (X : Xx) (d : Nat) (rt : Option FieldType) (k : List (Nat × En)) (f : ρ → Out) (pc : Nat) (L : Lc) (st : List Value) (g : Sg) (x : Option ρ) : Prop := ∀ r, x = some r → ∃ n, EvF zft X (EvM zft mtl X d) rt (lkp k) (f r) n pc L st (SHF, g)
def xc (a i : Nat) : Int32 := if a = 1001 then consts1.getD i 0 else consts2.getD i 0
def lt1 {α β : Type} (a : α) (k : α → β) : β := k a
section ZL
variable {ρ : Type} {X : Xx} {d : Nat} {rt : Option FieldType} {k : List (Nat × En)} {f : ρ → Out} {pc pc' : Nat} {L L' : Lc} {st st' : List Value} {g g' : Sg} {x y : Option ρ} {e : En} {au : List Nat} {w : Int}
theorem L_none : Lt X d rt k f pc L st g none := fun r h => by cases h
theorem L_s (hc : lkp k pc = some e) (hp : pcore zft X e pc L st (SHF, g) = some (pc', L', st', none)) (h : Lt X d rt k f pc' L' st' g x) : Lt X d rt k f pc L st g x := fun r hr => by
  obtain ⟨n, h⟩ := h r hr
  exact ⟨n + 1, Or.inr ⟨e, hc, Or.inl ⟨_, hp, h⟩⟩⟩
theorem L_st {act : Act} (hc : lkp k pc = some e) (hp : pcore zft X e pc L st (SHF, g) = some (pc', L', st', act)) (hm : apA (SHF, g) act = (SHF, g')) (h : Lt X d rt k f pc' L' st' g' x) : Lt X d rt k f pc L st g x := fun r hr => by
  obtain ⟨n, h⟩ := h r hr
  exact ⟨n + 1, Or.inr ⟨e, hc, Or.inl ⟨_, hp, by rw [hm]; exact h⟩⟩⟩
theorem L_ret {v : Option Value} {r : ρ} (hc : lkp k pc = some e) (hr : retOf rt e.1 st = some v) (hf : f r = (v, (SHF, g))) : Lt X d rt k f pc L st g (some r) := fun r' h => by
  cases h
  exact ⟨1, Or.inr ⟨e, hc, Or.inr (Or.inl ⟨v, hr, hf⟩)⟩⟩
theorem L_br {c : Prop} [Decidable c] {t n : Nat} (hc : lkp k pc = some e) (hp : pcore zft X e pc L st (SHF, g) = some (if decide c then t else n, L', st', none)) (ht : c → Lt X d rt k f t L' st' g x) (hn : ¬ c → Lt X d rt k f n L' st' g y) : Lt X d rt k f pc L st g (if c then x else y) := by
  by_cases h : c
  · rw [if_pos h]
    rw [decide_eq_true h] at hp
    exact L_s hc hp (ht h)
  · rw [if_neg h]
    rw [decide_eq_false h] at hp
    exact L_s hc hp (hn h)
theorem L_bt {c : Prop} [Decidable c] {t n : Nat} (hc : lkp k pc = some e) (hp : pcore zft X e pc L st (SHF, g) = some (if decide c then t else n, L', st', none)) (h : c) (ht : Lt X d rt k f t L' st' g x) : Lt X d rt k f pc L st g x := by
  rw [decide_eq_true h] at hp
  exact L_s hc hp ht
theorem L_bf {c : Prop} [Decidable c] {t n : Nat} (hc : lkp k pc = some e) (hp : pcore zft X e pc L st (SHF, g) = some (if decide c then t else n, L', st', none)) (h : ¬ c) (hn : Lt X d rt k f n L' st' g x) : Lt X d rt k f pc L st g x := by
  rw [decide_eq_false h] at hp
  exact L_s hc hp hn
theorem L_if {c : Prop} [Decidable c] (ht : c → Lt X d rt k f pc L st g x) (hn : ¬ c → Lt X d rt k f pc L st g y) : Lt X d rt k f pc L st g (if c then x else y) := by
  by_cases h : c
  · rw [if_pos h]; exact ht h
  · rw [if_neg h]; exact hn h
theorem L_g {c : Prop} [Decidable c] (ht : c → Lt X d rt k f pc L st g x) : Lt X d rt k f pc L st g (if c then x else none) := L_if ht (fun _ => L_none)
theorem L_wk (hw : wk L' L) (h : Lt X d rt k f pc L' st g x) : Lt X d rt k f pc L st g x := fun r hr => by
  obtain ⟨n, h⟩ := h r hr
  exact ⟨n + 1, Or.inl ⟨L', hw, h⟩⟩
theorem L_let {k' : Sg → Option ρ} (h : ∀ g', g' = g → Lt X d rt k f pc L st g' (k' g')) : Lt X d rt k f pc L st g (lt1 g k') := h g rfl
theorem L_li {a : Int32} {k' : Int32 → Option ρ} (h : ∀ b, b = a → Lt X d rt k f pc L (.int b :: st) g (k' b)) : Lt X d rt k f pc L (.int a :: st) g (lt1 a k') := h a rfl
theorem L_ll {a : Int64} {k' : Int64 → Option ρ} (h : ∀ b, b = a → Lt X d rt k f pc L (.long b :: st) g (k' b)) : Lt X d rt k f pc L (.long a :: st) g (lt1 a k') := h a rfl
theorem L_e {a b : Int32} (he : a = b) (h : Lt X d rt k f pc L (.int b :: st) g x) : Lt X d rt k f pc L (.int a :: st) g x := by rw [he]; exact h
theorem L_ic {n : Int} {v : Int32} (hc : lkp k pc = some (.iconst n, 1, au, w)) (hv : Int32.ofInt n = v) (hp : pc + 1 = pc') (h : Lt X d rt k f pc' L (.int v :: st) g x) : Lt X d rt k f pc L st g x := by subst hv; subst hp; exact L_s hc rfl h
theorem L_bi {n : Int} {v : Int32} (hc : lkp k pc = some (.bipush n, 2, au, w)) (hv : (Int8.ofInt n).toInt32 = v) (hp : pc + 2 = pc') (h : Lt X d rt k f pc' L (.int v :: st) g x) : Lt X d rt k f pc L st g x := by subst hv; subst hp; exact L_s hc rfl h
theorem L_si {n : Int} {v : Int32} (hc : lkp k pc = some (.sipush n, 3, au, w)) (hv : (Int16.ofInt n).toInt32 = v) (hp : pc + 3 = pc') (h : Lt X d rt k f pc' L (.int v :: st) g x) : Lt X d rt k f pc L st g x := by subst hv; subst hp; exact L_s hc rfl h
theorem L_ldc {ix : Nat} {au : List Nat} {v : Int32} (hc : lkp k pc = some (.ldc ix, 2, 0 :: au, w)) (hv : Int32.ofInt w = v) (hp : pc + 2 = pc') (h : Lt X d rt k f pc' L (.int v :: st) g x) : Lt X d rt k f pc L st g x := by subst hv; subst hp; exact L_s hc rfl h
theorem L_ldw {ix : Nat} {v : Int32} (hc : lkp k pc = some (.ldc_w ix, 3, au, w)) (hv : Int32.ofInt w = v) (hp : pc + 3 = pc') (h : Lt X d rt k f pc' L (.int v :: st) g x) : Lt X d rt k f pc L st g x := by subst hv; subst hp; exact L_s hc rfl h
theorem L_ld2 {ix : Nat} {v : Int64} (hc : lkp k pc = some (.ldc2_w ix, 3, au, w)) (hv : Int64.ofInt w = v) (hp : pc + 3 = pc') (h : Lt X d rt k f pc' L (.long v :: st) g x) : Lt X d rt k f pc L st g x := by subst hv; subst hp; exact L_s hc rfl h
theorem L_ii {i : Nat} {n : Int} {a v b : Int32} (hc : lkp k pc = some (.iinc i n, 3, au, w)) (hL : L[i]? = some (some (.int a))) (hv : Int32.ofInt n = v) (hb : a + v = b) (hL' : st1 L i (.int b) = L') (hp : pc + 3 = pc') (h : Lt X d rt k f pc' L' st g x) : Lt X d rt k f pc L st g x := by
  subst hv; subst hb; subst hL'; subst hp
  exact L_s hc (by simp only [pcore, hL]) h
theorem L_gf {ix ci q p0 a : Nat} {v : Value} (hc : lkp k pc = some (.getfield ix, 3, [ci, q, p0], w)) (hg : gf zft X (SHF, g) ci q a = some v) (hp : pc + 3 = pc') (h : Lt X d rt k f pc' L (v :: st) g x) : Lt X d rt k f pc L (.ref a :: st) g x := by
  subst hp
  exact L_s hc (by show gfd zft X pc [ci, q, p0] L (.ref a :: st) (SHF, g) = _; simp only [gfd, hg]) h
theorem L_pf {ix ci q p0 a t n : Nat} {rs : List (Option Nat)} {v : Int32} (hc : lkp k pc = some (.putfield ix, 3, [ci, q, p0], w)) (hs : SHF[a]? = some (t, n, rs)) (ht : t = 10 + ci ∧ q < n ∧ a < 1000) (hf : fty zft ci q = 0) (hp : pc + 3 = pc') (h : Lt X d rt k f pc' L st (up2 g a q v) x) : Lt X d rt k f pc L (.int v :: .ref a :: st) g x := by
  subst hp
  refine L_st (act := some (.inr (.inl (a, q, v)))) hc ?_ rfl h
  show pfd zft X pc [ci, q, p0] L (.int v :: .ref a :: st) (SHF, g) = _
  simp only [pfd, hs]
  rw [if_pos ht, if_pos (Or.inl hf)]
theorem L_pz {ix ci q p0 a t n : Nat} {rs : List (Option Nat)} {v : Int32} (hc : lkp k pc = some (.putfield ix, 3, [ci, q, p0], w)) (hs : SHF[a]? = some (t, n, rs)) (ht : t = 10 + ci ∧ q < n ∧ a < 1000) (hf : fty zft ci q = 1) (hv : v = 0 ∨ v = 1) (hp : pc + 3 = pc') (h : Lt X d rt k f pc' L st (up2 g a q v) x) : Lt X d rt k f pc L (.int v :: .ref a :: st) g x := by
  subst hp
  refine L_st (act := some (.inr (.inl (a, q, v)))) hc ?_ rfl h
  show pfd zft X pc [ci, q, p0] L (.int v :: .ref a :: st) (SHF, g) = _
  simp only [pfd, hs]
  rw [if_pos ht, if_pos (Or.inr ⟨hf, hv⟩)]
theorem L_rI {a n : Nat} {rs : List (Option Nat)} {i : Int32} (hc : lkp k pc = some (.iaload, 1, au, w)) (hs : SHF[a]? = some (0, n, rs)) (ha : a < 1000) (hp : pc + 1 = pc') (h : Lt X d rt k f pc' L (.int (g a i.toNatClampNeg) :: st) g x) : Lt X d rt k f pc L (.int i :: .ref a :: st) g (if inb i n = true then x else none) := by
  subst hp
  refine L_g fun hb => L_s hc ?_ h
  show rld X pc (fun t _ => t == 0) L (.int i :: .ref a :: st) (SHF, g) = _
  simp only [rld, shOf_lo (X := X) (M := (SHF, g)) ha, hs, hb]
  simp [rdv, ha]
theorem L_rB {a n t : Nat} {rs : List (Option Nat)} {i : Int32} (hc : lkp k pc = some (.baload, 1, au, w)) (hs : SHF[a]? = some (t, n, rs)) (ht : t = 1 ∨ t = 2) (ha : a < 1000) (hp : pc + 1 = pc') (h : Lt X d rt k f pc' L (.int (g a i.toNatClampNeg) :: st) g x) : Lt X d rt k f pc L (.int i :: .ref a :: st) g (if inb i n = true then x else none) := by
  subst hp
  refine L_g fun hb => L_s hc ?_ h
  show rld X pc (fun t _ => t == 1 || t == 2) L (.int i :: .ref a :: st) (SHF, g) = _
  simp only [rld, shOf_lo (X := X) (M := (SHF, g)) ha, hs, hb]
  rcases ht with rfl | rfl <;> simp [rdv, ha]
theorem L_xI {a n : Nat} {rs : List (Option Nat)} {i : Int32} (hc : lkp k pc = some (.iaload, 1, au, w)) (hs : xsh X a = some (0, n, rs)) (ha : ¬ a < 1000) (hx : ∀ j, xva X a j = xc a j) (hp : pc + 1 = pc') (h : Lt X d rt k f pc' L (.int (xc a i.toNatClampNeg) :: st) g x) : Lt X d rt k f pc L (.int i :: .ref a :: st) g (if inb i n = true then x else none) := by
  subst hp
  refine L_g fun hb => L_s hc ?_ h
  show rld X pc (fun t _ => t == 0) L (.int i :: .ref a :: st) (SHF, g) = _
  simp only [rld, shOf_hi (X := X) (M := (SHF, g)) ha, hs, hb]
  simp [rdv, ha, hx]
theorem L_xB {a n : Nat} {rs : List (Option Nat)} {i : Int32} (hc : lkp k pc = some (.baload, 1, au, w)) (hs : xsh X a = some (1, n, rs)) (ha : ¬ a < 1000) (hp : pc + 1 = pc') (h : Lt X d rt k f pc' L (.int (xva X a i.toNatClampNeg) :: st) g x) : Lt X d rt k f pc L (.int i :: .ref a :: st) g (if inb i n = true then x else none) := by
  subst hp
  refine L_g fun hb => L_s hc ?_ h
  show rld X pc (fun t _ => t == 1 || t == 2) L (.int i :: .ref a :: st) (SHF, g) = _
  simp only [rld, shOf_hi (X := X) (M := (SHF, g)) ha, hs, hb]
  simp [rdv, ha]
theorem L_wI {a n : Nat} {rs : List (Option Nat)} {i v : Int32} (hc : lkp k pc = some (.iastore, 1, au, w)) (hs : SHF[a]? = some (0, n, rs)) (ha : a < 1000) (hp : pc + 1 = pc') (h : Lt X d rt k f pc' L st (up2 g a i.toNatClampNeg v) x) : Lt X d rt k f pc L (.int v :: .int i :: .ref a :: st) g (if inb i n = true then x else none) := by
  subst hp
  refine L_g fun hb => L_st (act := some (.inr (.inl (a, i.toNatClampNeg, v)))) hc ?_ rfl h
  show rst X pc (fun t => t == 0) (fun _ x => x) L (.int v :: .int i :: .ref a :: st) (SHF, g) = _
  simp only [rst, hs, hb]
  simp [ha]
theorem L_wB {a n : Nat} {rs : List (Option Nat)} {i v : Int32} (hc : lkp k pc = some (.bastore, 1, au, w)) (hs : SHF[a]? = some (1, n, rs)) (ha : a < 1000) (hp : pc + 1 = pc') (h : Lt X d rt k f pc' L st (up2 g a i.toNatClampNeg v.toInt8.toInt32) x) : Lt X d rt k f pc L (.int v :: .int i :: .ref a :: st) g (if inb i n = true then x else none) := by
  subst hp
  refine L_g fun hb => L_st (act := some (.inr (.inl (a, i.toNatClampNeg, vp_nar .byte v)))) hc ?_ rfl h
  show rst X pc (fun t => t == 1 || t == 2) (fun t x => if t = 1 then vp_nar .byte x else vp_nar .boolean x) L (.int v :: .int i :: .ref a :: st) (SHF, g) = _
  simp only [rst, hs, hb]
  simp [ha]
theorem L_wZ {a n : Nat} {rs : List (Option Nat)} {i v : Int32} (hc : lkp k pc = some (.bastore, 1, au, w)) (hs : SHF[a]? = some (2, n, rs)) (ha : a < 1000) (hp : pc + 1 = pc') (h : Lt X d rt k f pc' L st (up2 g a i.toNatClampNeg (v &&& 1)) x) : Lt X d rt k f pc L (.int v :: .int i :: .ref a :: st) g (if inb i n = true then x else none) := by
  subst hp
  refine L_g fun hb => L_st (act := some (.inr (.inl (a, i.toNatClampNeg, vp_nar .boolean v)))) hc ?_ rfl h
  show rst X pc (fun t => t == 1 || t == 2) (fun t x => if t = 1 then vp_nar .byte x else vp_nar .boolean x) L (.int v :: .int i :: .ref a :: st) (SHF, g) = _
  simp only [rst, hs, hb]
  simp [ha]
theorem L_aa {a n t b : Nat} {rs : List (Option Nat)} {i : Int32} (hc : lkp k pc = some (.aaload, 1, au, w)) (hs : SHF[a]? = some (t, n, rs)) (ht : (t = 3 ∨ t = 4) ∧ a < 1000) (hi : inb i n = true) (hr : rs[i.toNatClampNeg]? = some (some b)) (hp : pc + 1 = pc') (h : Lt X d rt k f pc' L (.ref b :: st) g x) : Lt X d rt k f pc L (.int i :: .ref a :: st) g x := by
  subst hp
  refine L_s hc ?_ h
  show ald X pc L (.int i :: .ref a :: st) (SHF, g) = _
  simp only [ald, hs, hi, hr]
  rcases ht with ⟨rfl | rfl, h2⟩ <;> simp [h2, rv]
theorem L_dv {a b : Int32} (hc : lkp k pc = some (.idiv, 1, au, w)) (hp : pc + 1 = pc') (h : Lt X d rt k f pc' L (.int (a / b) :: st) g x) : Lt X d rt k f pc L (.int b :: .int a :: st) g (if b = 0 then none else x) := by
  subst hp
  refine L_if (fun _ => L_none) fun hb => L_s hc ?_ h
  show i2 pc L (.int b :: .int a :: st) (fun x y => if y = 0 then none else some (x / y)) = _
  simp only [i2]
  rw [if_neg hb]
theorem L_rm {a b : Int32} (hc : lkp k pc = some (.irem, 1, au, w)) (hp : pc + 1 = pc') (h : Lt X d rt k f pc' L (.int (a - a / b * b) :: st) g x) : Lt X d rt k f pc L (.int b :: .int a :: st) g (if b = 0 then none else x) := by
  subst hp
  refine L_if (fun _ => L_none) fun hb => L_s hc ?_ h
  show i2 pc L (.int b :: .int a :: st) (fun x y => if y = 0 then none else some (x - x / y * y)) = _
  simp only [i2]
  rw [if_neg hb]
theorem L_dvk {a b : Int32} (hc : lkp k pc = some (.idiv, 1, au, w)) (hb : ¬ b = 0) (hp : pc + 1 = pc') (h : Lt X d rt k f pc' L (.int (a / b) :: st) g x) : Lt X d rt k f pc L (.int b :: .int a :: st) g x := by
  have := L_dv (d := d) (rt := rt) (f := f) hc hp h
  rwa [if_neg hb] at this
theorem L_rmk {a b : Int32} (hc : lkp k pc = some (.irem, 1, au, w)) (hb : ¬ b = 0) (hp : pc + 1 = pc') (h : Lt X d rt k f pc' L (.int (a - a / b * b) :: st) g x) : Lt X d rt k f pc L (.int b :: .int a :: st) g x := by
  have := L_rm (d := d) (rt := rt) (f := f) hc hp h
  rwa [if_neg hb] at this
theorem L_ldv {a b : Int64} (hc : lkp k pc = some (.ldiv, 1, au, w)) (hp : pc + 1 = pc') (h : Lt X d rt k f pc' L (.long (a / b) :: st) g x) : Lt X d rt k f pc L (.long b :: .long a :: st) g (if b = 0 then none else x) := by
  subst hp
  refine L_if (fun _ => L_none) fun hb => L_s hc ?_ h
  show l2 pc L (.long b :: .long a :: st) (fun x y => if y = 0 then none else some (x / y)) = _
  simp only [l2]
  rw [if_neg hb]
theorem L_lrm {a b : Int64} (hc : lkp k pc = some (.lrem, 1, au, w)) (hp : pc + 1 = pc') (h : Lt X d rt k f pc' L (.long (a - a / b * b) :: st) g x) : Lt X d rt k f pc L (.long b :: .long a :: st) g (if b = 0 then none else x) := by
  subst hp
  refine L_if (fun _ => L_none) fun hb => L_s hc ?_ h
  show l2 pc L (.long b :: .long a :: st) (fun x y => if y = 0 then none else some (x - x / y * y)) = _
  simp only [l2]
  rw [if_neg hb]
theorem L_cp {a b t na nb : Nat} {ra rb : List (Option Nat)} {ix : Nat} {ps : List Nat} {n : Int32} (hc : lkp k pc = some (.invokestatic ix, 3, 3 :: ps, w)) (ha : SHF[a]? = some (t, na, ra)) (hb : SHF[b]? = some (t, nb, rb)) (ht : t < 3 ∧ a < 1000 ∧ b < 1000) (hn : ¬ n < 0) (hn1 : n.toNatClampNeg ≤ na) (hn2 : n.toNatClampNeg ≤ nb) (h8 : cat8 st = true) (hp : pc + 3 = pc') (h : Lt X d rt k f pc' L st (cp2 g a 0 b 0 n.toNatClampNeg) x) : Lt X d rt k f pc L (.int n :: .int 0 :: .ref b :: .int 0 :: .ref a :: st) g x := by
  subst hp
  refine L_st (act := some (.inr (.inr (.inr (a, (0 : Int32).toNatClampNeg, b, (0 : Int32).toNatClampNeg, n.toNatClampNeg))))) hc ?_ rfl h
  simp only [pcore]
  rw [if_pos (by omega)]
  simp only [prim, ha, hb]
  rw [if_pos ⟨ht.1, trivial, ht.2.1, ht.2.2, by decide, by decide, hn, by show 0 + _ ≤ _; omega, by show 0 + _ ≤ _; omega, h8⟩]
theorem L_ci {mid : Nat} {as rest : List Value} {c1 : Option Int32} {K : Int32 → Option ρ} (hc : lkp k pc = some e) (hk : callOf X (SHF, g) e st = some (mid, as, rest)) (hcall : ∀ r1, c1 = some r1 → EvM zft mtl X d mid as (SHF, g) (some (.int r1), (SHF, g))) (hp : pc + 3 = pc') (h : ∀ r1, Lt X d rt k f pc' L (.int r1 :: rest) g (K r1)) : Lt X d rt k f pc L st g (c1.bind K) := fun r hr => by
  obtain ⟨r1, h1, h2⟩ := Option.bind_eq_some_iff.mp hr
  obtain ⟨n, h3⟩ := h r1 r h2
  subst hp
  exact ⟨n + 1, Or.inr ⟨e, hc, Or.inr (Or.inr ⟨_, hk, _, hcall r1 h1, h3⟩)⟩⟩
theorem L_cr {mid : Nat} {as rest : List Value} {c1 : Option Nat} {K : Nat → Option ρ} (hc : lkp k pc = some e) (hk : callOf X (SHF, g) e st = some (mid, as, rest)) (hcall : ∀ r1, c1 = some r1 → EvM zft mtl X d mid as (SHF, g) (some (.ref r1), (SHF, g))) (hp : pc + 3 = pc') (h : ∀ r1, Lt X d rt k f pc' L (.ref r1 :: rest) g (K r1)) : Lt X d rt k f pc L st g (c1.bind K) := fun r hr => by
  obtain ⟨r1, h1, h2⟩ := Option.bind_eq_some_iff.mp hr
  obtain ⟨n, h3⟩ := h r1 r h2
  subst hp
  exact ⟨n + 1, Or.inr ⟨e, hc, Or.inr (Or.inr ⟨_, hk, _, hcall r1 h1, h3⟩)⟩⟩
theorem L_cj {mid : Nat} {as rest : List Value} {c1 : Option Int64} {K : Int64 → Option ρ} (hc : lkp k pc = some e) (hk : callOf X (SHF, g) e st = some (mid, as, rest)) (hcall : ∀ r1, c1 = some r1 → EvM zft mtl X d mid as (SHF, g) (some (.long r1), (SHF, g))) (hp : pc + 3 = pc') (h : ∀ r1, Lt X d rt k f pc' L (.long r1 :: rest) g (K r1)) : Lt X d rt k f pc L st g (c1.bind K) := fun r hr => by
  obtain ⟨r1, h1, h2⟩ := Option.bind_eq_some_iff.mp hr
  obtain ⟨n, h3⟩ := h r1 r h2
  subst hp
  exact ⟨n + 1, Or.inr ⟨e, hc, Or.inr (Or.inr ⟨_, hk, _, hcall r1 h1, h3⟩)⟩⟩
theorem L_cig {mid : Nat} {as rest : List Value} {c1 : Option (Int32 × Sg)} {K : Int32 × Sg → Option ρ} (hc : lkp k pc = some e) (hk : callOf X (SHF, g) e st = some (mid, as, rest)) (hcall : ∀ r1, c1 = some r1 → EvM zft mtl X d mid as (SHF, g) (some (.int r1.1), (SHF, r1.2))) (hp : pc + 3 = pc') (h : ∀ a g1, Lt X d rt k f pc' L (.int a :: rest) g1 (K (a, g1))) : Lt X d rt k f pc L st g (c1.bind K) := fun r hr => by
  obtain ⟨r1, h1, h2⟩ := Option.bind_eq_some_iff.mp hr
  obtain ⟨n, h3⟩ := h r1.1 r1.2 r h2
  subst hp
  exact ⟨n + 1, Or.inr ⟨e, hc, Or.inr (Or.inr ⟨_, hk, _, hcall r1 h1, h3⟩)⟩⟩
theorem L_cv {mid : Nat} {as rest : List Value} {c1 : Option Sg} {K : Sg → Option ρ} (hc : lkp k pc = some e) (hk : callOf X (SHF, g) e st = some (mid, as, rest)) (hcall : ∀ r1, c1 = some r1 → EvM zft mtl X d mid as (SHF, g) (none, (SHF, r1))) (hp : pc + 3 = pc') (h : ∀ g1, Lt X d rt k f pc' L rest g1 (K g1)) : Lt X d rt k f pc L st g (c1.bind K) := fun r hr => by
  obtain ⟨r1, h1, h2⟩ := Option.bind_eq_some_iff.mp hr
  obtain ⟨n, h3⟩ := h r1 r h2
  subst hp
  exact ⟨n + 1, Or.inr ⟨e, hc, Or.inr (Or.inr ⟨_, hk, _, hcall r1 h1, h3⟩)⟩⟩
theorem L_cu {mid : Nat} {as rest : List Value} {c1 : Option Unit} {K : Unit → Option ρ} (hc : lkp k pc = some e) (hk : callOf X (SHF, g) e st = some (mid, as, rest)) (hcall : ∀ r1, c1 = some r1 → EvM zft mtl X d mid as (SHF, g) (none, (SHF, g))) (hp : pc + 3 = pc') (h : Lt X d rt k f pc' L rest g (K ())) : Lt X d rt k f pc L st g (c1.bind K) := fun r hr => by
  obtain ⟨r1, h1, h2⟩ := Option.bind_eq_some_iff.mp hr
  obtain ⟨n, h3⟩ := h r h2
  subst hp
  exact ⟨n + 1, Or.inr ⟨e, hc, Or.inr (Or.inr ⟨_, hk, _, hcall r1 h1, h3⟩)⟩⟩
theorem L_rIk {a n j : Nat} {rs : List (Option Nat)} {i : Int32} (hc : lkp k pc = some (.iaload, 1, au, w)) (hs : SHF[a]? = some (0, n, rs)) (ha : a < 1000) (hi : inb i n = true) (hj : i.toNatClampNeg = j) (hp : pc + 1 = pc') (h : Lt X d rt k f pc' L (.int (g a j) :: st) g x) : Lt X d rt k f pc L (.int i :: .ref a :: st) g x := by
  subst hj
  have := L_rI (d := d) (rt := rt) (f := f) hc hs ha hp h
  rwa [if_pos hi] at this
theorem L_rBk {a n t j : Nat} {rs : List (Option Nat)} {i : Int32} (hc : lkp k pc = some (.baload, 1, au, w)) (hs : SHF[a]? = some (t, n, rs)) (ht : t = 1 ∨ t = 2) (ha : a < 1000) (hi : inb i n = true) (hj : i.toNatClampNeg = j) (hp : pc + 1 = pc') (h : Lt X d rt k f pc' L (.int (g a j) :: st) g x) : Lt X d rt k f pc L (.int i :: .ref a :: st) g x := by
  subst hj
  have := L_rB (d := d) (rt := rt) (f := f) hc hs ht ha hp h
  rwa [if_pos hi] at this
theorem L_xBk {a n : Nat} {rs : List (Option Nat)} {i v : Int32} (hc : lkp k pc = some (.baload, 1, au, w)) (hs : xsh X a = some (1, n, rs)) (ha : ¬ a < 1000) (hi : inb i n = true) (hv : xva X a i.toNatClampNeg = v) (hp : pc + 1 = pc') (h : Lt X d rt k f pc' L (.int v :: st) g x) : Lt X d rt k f pc L (.int i :: .ref a :: st) g x := by
  subst hv
  have := L_xB (d := d) (rt := rt) (f := f) hc hs ha hp h
  rwa [if_pos hi] at this
theorem L_wIk {a n j : Nat} {rs : List (Option Nat)} {i v : Int32} (hc : lkp k pc = some (.iastore, 1, au, w)) (hs : SHF[a]? = some (0, n, rs)) (ha : a < 1000) (hi : inb i n = true) (hj : i.toNatClampNeg = j) (hp : pc + 1 = pc') (h : Lt X d rt k f pc' L st (up2 g a j v) x) : Lt X d rt k f pc L (.int v :: .int i :: .ref a :: st) g x := by
  subst hj
  have := L_wI (d := d) (rt := rt) (f := f) hc hs ha hp h
  rwa [if_pos hi] at this
theorem L_wZk {a n j : Nat} {rs : List (Option Nat)} {i v : Int32} (hc : lkp k pc = some (.bastore, 1, au, w)) (hs : SHF[a]? = some (2, n, rs)) (ha : a < 1000) (hi : inb i n = true) (hj : i.toNatClampNeg = j) (hp : pc + 1 = pc') (h : Lt X d rt k f pc' L st (up2 g a j (v &&& 1)) x) : Lt X d rt k f pc L (.int v :: .int i :: .ref a :: st) g x := by
  subst hj
  have := L_wZ (d := d) (rt := rt) (f := f) hc hs ha hp h
  rwa [if_pos hi] at this
theorem L_ts {lo hi dd : Int} {offs : Array Int} {ln : Nat} {y : Int32} {off : Int} {t : Nat} (hc : lkp k pc = some (.tableswitch dd lo hi offs, ln, au, w)) (hf : twf dd lo hi offs y.toInt = some off) (ht : tg pc off = some t) (h : Lt X d rt k f t L st g x) : Lt X d rt k f pc L (.int y :: st) g x := L_s hc (by show sw pc L (.int y :: st) (twf dd lo hi offs) = _; simp only [sw, hf, jmp, ht]) h
theorem L_ls {dd : Int} {ps : Array (Int × Int)} {ln : Nat} {y : Int32} {off : Int} {t : Nat} (hc : lkp k pc = some (.lookupswitch dd ps, ln, au, w)) (hf : lwf dd ps y.toInt = some off) (ht : tg pc off = some t) (h : Lt X d rt k f t L st g x) : Lt X d rt k f pc L (.int y :: st) g x := L_s hc (by show sw pc L (.int y :: st) (lwf dd ps) = _; simp only [sw, hf, jmp, ht]) h
theorem ret_i {v : Int32} : retOf (some .int) .ireturn [.int v] = some (some (.int v)) := if_pos rfl
theorem ret_z {v : Int32} (h : v = 0 ∨ v = 1) : retOf (some .boolean) .ireturn [.int v] = some (some (.int v)) := by rcases h with rfl | rfl <;> decide
theorem L_kc {mid : Nat} {as rest : List Value} {v : Int32} (hc : lkp k pc = some e) (hk : callOf X (SHF, g) e st = some (mid, as, rest)) (hcall : EvM zft mtl X d mid as (SHF, g) (some (.int v), (SHF, g))) (hp : pc + 3 = pc') (h : Lt X d rt k f pc' L (.int v :: rest) g x) : Lt X d rt k f pc L st g x := fun r hr => by
  obtain ⟨n, h3⟩ := h r hr
  subst hp
  exact ⟨n + 1, Or.inr ⟨e, hc, Or.inr (Or.inr ⟨_, hk, _, hcall, h3⟩)⟩⟩
theorem L_ku {mid : Nat} {as rest : List Value} (hc : lkp k pc = some e) (hk : callOf X (SHF, g) e st = some (mid, as, rest)) (hcall : EvM zft mtl X d mid as (SHF, g) (none, (SHF, g))) (hp : pc + 3 = pc') (h : Lt X d rt k f pc' L rest g x) : Lt X d rt k f pc L st g x := fun r hr => by
  obtain ⟨n, h3⟩ := h r hr
  subst hp
  exact ⟨n + 1, Or.inr ⟨e, hc, Or.inr (Or.inr ⟨_, hk, _, hcall, h3⟩)⟩⟩
theorem L_kr {mid : Nat} {as rest : List Value} {v : Nat} (hc : lkp k pc = some e) (hk : callOf X (SHF, g) e st = some (mid, as, rest)) (hcall : EvM zft mtl X d mid as (SHF, g) (some (.ref v), (SHF, g))) (hp : pc + 3 = pc') (h : Lt X d rt k f pc' L (.ref v :: rest) g x) : Lt X d rt k f pc L st g x := fun r hr => by
  obtain ⟨n, h3⟩ := h r hr
  subst hp
  exact ⟨n + 1, Or.inr ⟨e, hc, Or.inr (Or.inr ⟨_, hk, _, hcall, h3⟩)⟩⟩
theorem L_kj {mid : Nat} {as rest : List Value} {v : Int64} (hc : lkp k pc = some e) (hk : callOf X (SHF, g) e st = some (mid, as, rest)) (hcall : EvM zft mtl X d mid as (SHF, g) (some (.long v), (SHF, g))) (hp : pc + 3 = pc') (h : Lt X d rt k f pc' L (.long v :: rest) g x) : Lt X d rt k f pc L st g x := fun r hr => by
  obtain ⟨n, h3⟩ := h r hr
  subst hp
  exact ⟨n + 1, Or.inr ⟨e, hc, Or.inr (Or.inr ⟨_, hk, _, hcall, h3⟩)⟩⟩
theorem L_le {a b : Int64} (he : a = b) (h : Lt X d rt k f pc L (.long b :: st) g x) : Lt X d rt k f pc L (.long a :: st) g x := by rw [he]; exact h
theorem L_x3 {ix n p0 : Nat} (hc : lkp k pc = some (.getstatic ix, 3, [3, n, p0], w)) (hp : pc + 3 = pc') (h1 : X.2.2 = true → Lt X d rt k f pc' L (.null :: st) g x) (h2 : X.2.2 = false → Lt X d rt k f pc' L (.ref 1100 :: st) g x) : Lt X d rt k f pc L st g x := by
  subst hp
  cases h : X.2.2 with
  | true => exact L_s hc (by show some (pc + 3, L, (if X.2.2 then Value.null else .ref 1100) :: st, none) = _; rw [h]; rfl) (h1 h)
  | false => exact L_s hc (by show some (pc + 3, L, (if X.2.2 then Value.null else .ref 1100) :: st, none) = _; rw [h]; rfl) (h2 h)
theorem E_in {mid : Nat} {mi : Mi} {as : List Value} (hm : mtl[mid]? = some mi) (hl : (iL as).length ≤ mi.2.2.1) (h : Lt X d mi.2.2.2.1 mi.2.2.2.2 f 0 (initL as mi.2.2.1) [] g x) : ∀ r, x = some r → EvM zft mtl X (d + 1) mid as (SHF, g) (f r) := fun r hr => ⟨mi, hm, hl, h r hr⟩
theorem wk_nil : wk [] [] := ⟨rfl, fun i v h => by simp at h⟩
theorem wk_s {a : Option Value} {l l' : Lc} (h : wk l' l) : wk (a :: l') (a :: l) := by
  refine ⟨by rw [List.length_cons, List.length_cons, h.1], fun i v hv => ?_⟩
  cases i with
  | zero => exact hv
  | succ i => exact h.2 i v hv
theorem wk_n {a : Option Value} {l l' : Lc} (h : wk l' l) : wk (none :: l') (a :: l) := by
  refine ⟨by rw [List.length_cons, List.length_cons, h.1], fun i v hv => ?_⟩
  cases i with
  | zero => cases hv
  | succ i => exact h.2 i v hv
theorem twf_out {dd lo hi : Int} {offs : Array Int} {y : Int32} {n : Nat} (hn : lo + n = hi + 1) (hr : -2147483648 ≤ lo ∧ hi < 2147483648) (h : ∀ j : Nat, j < n → ¬ y = Int32.ofInt (lo + j)) : twf dd lo hi offs y.toInt = some dd := by
  unfold twf
  rw [if_pos]
  by_cases h1 : y.toInt < lo
  · exact Or.inl h1
  · refine Or.inr (Int.not_le.mp fun h2 => ?_)
    refine h (y.toInt - lo).toNat (by omega) ?_
    rw [show lo + ((y.toInt - lo).toNat : Int) = y.toInt by omega]
    exact (Int32.ofInt_toInt y).symm
theorem lwf_out {dd : Int} {ps : Array (Int × Int)} {y : Int32} (hs : (ps.toList.zip (ps.toList.drop 1)).all (fun (a, next) => a.1 < next.1) = true) (h : ∀ q ∈ ps.toList, ¬ y.toInt = q.1) : lwf dd ps y.toInt = some dd := by
  unfold lwf
  rw [if_pos hs]
  congr 1
  generalize ps.toList = l at h
  induction l with
  | nil => rfl
  | cons q r ih =>
    obtain ⟨a, o⟩ := q
    rw [Op.lookupswitch.offset_cons, if_neg]
    · exact ih (fun q hq => h q (List.mem_cons_of_mem _ hq))
    · intro e
      exact h (a, o) List.mem_cons_self (by first | exact e | exact e.symm)
end ZL
theorem q1_m1 : Int32.ofInt (-1) = (-1) := by decide
theorem q1_0 : Int32.ofInt (0) = 0 := by decide
theorem q1_1 : Int32.ofInt (1) = 1 := by decide
theorem q1_2 : Int32.ofInt (2) = 2 := by decide
theorem q1_3 : Int32.ofInt (3) = 3 := by decide
theorem q1_4 : Int32.ofInt (4) = 4 := by decide
theorem q1_5 : Int32.ofInt (5) = 5 := by decide
theorem q2_m2 : (Int8.ofInt (-2)).toInt32 = (-2) := by decide
theorem q2_6 : (Int8.ofInt (6)).toInt32 = 6 := by decide
theorem q2_7 : (Int8.ofInt (7)).toInt32 = 7 := by decide
theorem q2_8 : (Int8.ofInt (8)).toInt32 = 8 := by decide
theorem q2_9 : (Int8.ofInt (9)).toInt32 = 9 := by decide
theorem q2_10 : (Int8.ofInt (10)).toInt32 = 10 := by decide
theorem q2_12 : (Int8.ofInt (12)).toInt32 = 12 := by decide
theorem q2_13 : (Int8.ofInt (13)).toInt32 = 13 := by decide
theorem q2_14 : (Int8.ofInt (14)).toInt32 = 14 := by decide
theorem q2_15 : (Int8.ofInt (15)).toInt32 = 15 := by decide
theorem q2_16 : (Int8.ofInt (16)).toInt32 = 16 := by decide
theorem q2_17 : (Int8.ofInt (17)).toInt32 = 17 := by decide
theorem q2_18 : (Int8.ofInt (18)).toInt32 = 18 := by decide
theorem q2_19 : (Int8.ofInt (19)).toInt32 = 19 := by decide
theorem q2_20 : (Int8.ofInt (20)).toInt32 = 20 := by decide
theorem q2_21 : (Int8.ofInt (21)).toInt32 = 21 := by decide
theorem q2_22 : (Int8.ofInt (22)).toInt32 = 22 := by decide
theorem q2_24 : (Int8.ofInt (24)).toInt32 = 24 := by decide
theorem q2_30 : (Int8.ofInt (30)).toInt32 = 30 := by decide
theorem q2_31 : (Int8.ofInt (31)).toInt32 = 31 := by decide
theorem q2_32 : (Int8.ofInt (32)).toInt32 = 32 := by decide
theorem q2_36 : (Int8.ofInt (36)).toInt32 = 36 := by decide
theorem q2_40 : (Int8.ofInt (40)).toInt32 = 40 := by decide
theorem q2_48 : (Int8.ofInt (48)).toInt32 = 48 := by decide
theorem q2_57 : (Int8.ofInt (57)).toInt32 = 57 := by decide
theorem q2_58 : (Int8.ofInt (58)).toInt32 = 58 := by decide
theorem q2_59 : (Int8.ofInt (59)).toInt32 = 59 := by decide
theorem q2_60 : (Int8.ofInt (60)).toInt32 = 60 := by decide
theorem q2_61 : (Int8.ofInt (61)).toInt32 = 61 := by decide
theorem q2_62 : (Int8.ofInt (62)).toInt32 = 62 := by decide
theorem q2_63 : (Int8.ofInt (63)).toInt32 = 63 := by decide
theorem q2_64 : (Int8.ofInt (64)).toInt32 = 64 := by decide
theorem q2_96 : (Int8.ofInt (96)).toInt32 = 96 := by decide
theorem q2_97 : (Int8.ofInt (97)).toInt32 = 97 := by decide
theorem q2_99 : (Int8.ofInt (99)).toInt32 = 99 := by decide
theorem q2_100 : (Int8.ofInt (100)).toInt32 = 100 := by decide
theorem q2_101 : (Int8.ofInt (101)).toInt32 = 101 := by decide
theorem q2_102 : (Int8.ofInt (102)).toInt32 = 102 := by decide
theorem q2_103 : (Int8.ofInt (103)).toInt32 = 103 := by decide
theorem q2_104 : (Int8.ofInt (104)).toInt32 = 104 := by decide
theorem q2_105 : (Int8.ofInt (105)).toInt32 = 105 := by decide
theorem q2_108 : (Int8.ofInt (108)).toInt32 = 108 := by decide
theorem q2_110 : (Int8.ofInt (110)).toInt32 = 110 := by decide
theorem q2_111 : (Int8.ofInt (111)).toInt32 = 111 := by decide
theorem q2_114 : (Int8.ofInt (114)).toInt32 = 114 := by decide
theorem q2_116 : (Int8.ofInt (116)).toInt32 = 116 := by decide
theorem q2_117 : (Int8.ofInt (117)).toInt32 = 117 := by decide
theorem q2_119 : (Int8.ofInt (119)).toInt32 = 119 := by decide
theorem q2_120 : (Int8.ofInt (120)).toInt32 = 120 := by decide
theorem q2_121 : (Int8.ofInt (121)).toInt32 = 121 := by decide
theorem q2_122 : (Int8.ofInt (122)).toInt32 = 122 := by decide
theorem q2_126 : (Int8.ofInt (126)).toInt32 = 126 := by decide
theorem q3_140 : (Int16.ofInt (140)).toInt32 = 140 := by decide
theorem q3_150 : (Int16.ofInt (150)).toInt32 = 150 := by decide
theorem q3_167 : (Int16.ofInt (167)).toInt32 = 167 := by decide
theorem q3_168 : (Int16.ofInt (168)).toInt32 = 168 := by decide
theorem q3_190 : (Int16.ofInt (190)).toInt32 = 190 := by decide
theorem q3_255 : (Int16.ofInt (255)).toInt32 = 255 := by decide
theorem q3_290 : (Int16.ofInt (290)).toInt32 = 290 := by decide
theorem q3_320 : (Int16.ofInt (320)).toInt32 = 320 := by decide
theorem q3_500 : (Int16.ofInt (500)).toInt32 = 500 := by decide
theorem q3_550 : (Int16.ofInt (550)).toInt32 = 550 := by decide
theorem q3_672 : (Int16.ofInt (672)).toInt32 = 672 := by decide
theorem q3_999 : (Int16.ofInt (999)).toInt32 = 999 := by decide
theorem q3_1000 : (Int16.ofInt (1000)).toInt32 = 1000 := by decide
theorem q3_1024 : (Int16.ofInt (1024)).toInt32 = 1024 := by decide
theorem q3_1270 : (Int16.ofInt (1270)).toInt32 = 1270 := by decide
theorem q3_1870 : (Int16.ofInt (1870)).toInt32 = 1870 := by decide
theorem q3_2400 : (Int16.ofInt (2400)).toInt32 = 2400 := by decide
theorem q3_4270 : (Int16.ofInt (4270)).toInt32 = 4270 := by decide
theorem q3_4590 : (Int16.ofInt (4590)).toInt32 = 4590 := by decide
theorem q3_5090 : (Int16.ofInt (5090)).toInt32 = 5090 := by decide
theorem q3_9599 : (Int16.ofInt (9599)).toInt32 = 9599 := by decide
theorem q3_9999 : (Int16.ofInt (9999)).toInt32 = 9999 := by decide
theorem q3_20360 : (Int16.ofInt (20360)).toInt32 = 20360 := by decide
theorem q1_m100000 : Int32.ofInt (-100000) = (-100000) := by decide
theorem q1_m8 : Int32.ofInt (-8) = (-8) := by decide
theorem q1_7 : Int32.ofInt (7) = 7 := by decide
theorem q1_99999 : Int32.ofInt (99999) = 99999 := by decide
theorem q1_1000000 : Int32.ofInt (1000000) = 1000000 := by decide
theorem q1_252645135 : Int32.ofInt (252645135) = 252645135 := by decide
theorem q1_858993459 : Int32.ofInt (858993459) = 858993459 := by decide
theorem q1_1431655765 : Int32.ofInt (1431655765) = 1431655765 := by decide
theorem q4_32 : Int64.ofInt (32) = 32 := by decide
theorem q4_96 : Int64.ofInt (96) = 96 := by decide
theorem q4_115 : Int64.ofInt (115) = 115 := by decide
theorem q4_116 : Int64.ofInt (116) = 116 := by decide
theorem q4_294 : Int64.ofInt (294) = 294 := by decide
theorem q4_32768 : Int64.ofInt (32768) = 32768 := by decide
theorem fr_0_0 {X : Xx} {g : Sg} : gf zft X (SHF, g) 11 0 0 = some (.ref 1) := rfl
theorem fr_0_1 {X : Xx} {g : Sg} : gf zft X (SHF, g) 11 1 0 = some (.ref 47) := rfl
theorem fr_0_2 {X : Xx} {g : Sg} : gf zft X (SHF, g) 11 2 0 = some (.ref 186) := rfl
theorem fr_0_3 {X : Xx} {g : Sg} : gf zft X (SHF, g) 11 3 0 = some (.ref 187) := rfl
theorem fr_0_4 {X : Xx} {g : Sg} : gf zft X (SHF, g) 11 4 0 = some (.ref 191) := rfl
theorem fr_0_5 {X : Xx} {g : Sg} : gf zft X (SHF, g) 11 5 0 = some (.ref 200) := rfl
theorem fr_0_6 {X : Xx} {g : Sg} : gf zft X (SHF, g) 11 6 0 = some (.ref 208) := rfl
theorem fr_1_0 {X : Xx} {g : Sg} : gf zft X (SHF, g) 8 0 1 = some (.ref 2) := rfl
theorem fr_1_1 {X : Xx} {g : Sg} : gf zft X (SHF, g) 8 1 1 = some (.ref 22) := rfl
theorem fr_1_2 {X : Xx} {g : Sg} : gf zft X (SHF, g) 8 2 1 = some (.ref 31) := rfl
theorem fr_1_3 {X : Xx} {g : Sg} : gf zft X (SHF, g) 8 3 1 = some (.ref 42) := rfl
theorem fi_2_0 {X : Xx} {g : Sg} : gf zft X (SHF, g) 3 0 2 = some (.int (g 2 0)) := rfl
theorem fi_2_1 {X : Xx} {g : Sg} : gf zft X (SHF, g) 3 1 2 = some (.int (g 2 1)) := rfl
theorem fr_2_2 {X : Xx} {g : Sg} : gf zft X (SHF, g) 3 2 2 = some (.ref 3) := rfl
theorem fr_2_3 {X : Xx} {g : Sg} : gf zft X (SHF, g) 3 3 2 = some (.ref 4) := rfl
theorem fr_2_4 {X : Xx} {g : Sg} : gf zft X (SHF, g) 3 4 2 = some (.ref 5) := rfl
theorem fr_2_5 {X : Xx} {g : Sg} : gf zft X (SHF, g) 3 5 2 = some (.ref 6) := rfl
theorem fi_2_6 {X : Xx} {g : Sg} : gf zft X (SHF, g) 3 6 2 = some (.int (g 2 6)) := rfl
theorem fr_2_7 {X : Xx} {g : Sg} : gf zft X (SHF, g) 3 7 2 = some (.ref 9) := rfl
theorem fr_2_8 {X : Xx} {g : Sg} : gf zft X (SHF, g) 3 8 2 = some (.ref 10) := rfl
theorem fr_2_9 {X : Xx} {g : Sg} : gf zft X (SHF, g) 3 9 2 = some (.ref 11) := rfl
theorem fr_2_10 {X : Xx} {g : Sg} : gf zft X (SHF, g) 3 10 2 = some (.ref 12) := rfl
theorem fr_2_11 {X : Xx} {g : Sg} : gf zft X (SHF, g) 3 11 2 = some (.ref 13) := rfl
theorem fr_2_12 {X : Xx} {g : Sg} : gf zft X (SHF, g) 3 12 2 = some (.ref 14) := rfl
theorem fr_2_13 {X : Xx} {g : Sg} : gf zft X (SHF, g) 3 13 2 = some (.ref 15) := rfl
theorem fr_2_14 {X : Xx} {g : Sg} : gf zft X (SHF, g) 3 14 2 = some (.ref 16) := rfl
theorem fr_2_15 {X : Xx} {g : Sg} : gf zft X (SHF, g) 3 15 2 = some (.ref 19) := rfl
theorem fr_2_16 {X : Xx} {g : Sg} : gf zft X (SHF, g) 3 16 2 = some (.ref 20) := rfl
theorem fr_2_17 {X : Xx} {g : Sg} : gf zft X (SHF, g) 3 17 2 = some (.ref 21) := rfl
theorem fr_22_0 {X : Xx} {g : Sg} : gf zft X (SHF, g) 6 0 22 = some (.ref 23) := rfl
theorem fi_22_1 {X : Xx} {g : Sg} : gf zft X (SHF, g) 6 1 22 = some (.int (g 22 1)) := rfl
theorem fr_22_2 {X : Xx} {g : Sg} : gf zft X (SHF, g) 6 2 22 = some (.ref 24) := rfl
theorem fr_22_3 {X : Xx} {g : Sg} : gf zft X (SHF, g) 6 3 22 = some (.ref 25) := rfl
theorem fr_22_4 {X : Xx} {g : Sg} : gf zft X (SHF, g) 6 4 22 = some (.ref 26) := rfl
theorem fr_22_5 {X : Xx} {g : Sg} : gf zft X (SHF, g) 6 5 22 = some (.ref 27) := rfl
theorem fr_22_6 {X : Xx} {g : Sg} : gf zft X (SHF, g) 6 6 22 = some (.ref 28) := rfl
theorem fr_22_7 {X : Xx} {g : Sg} : gf zft X (SHF, g) 6 7 22 = some (.ref 29) := rfl
theorem fi_22_8 {X : Xx} {g : Sg} : gf zft X (SHF, g) 6 8 22 = some (.int (g 22 8)) := rfl
theorem fr_22_9 {X : Xx} {g : Sg} : gf zft X (SHF, g) 6 9 22 = some (.ref 30) := rfl
theorem fi_31_0 {X : Xx} {g : Sg} : gf zft X (SHF, g) 1 0 31 = some (.int (g 31 0)) := rfl
theorem fr_31_1 {X : Xx} {g : Sg} : gf zft X (SHF, g) 1 1 31 = some (.ref 32) := rfl
theorem fi_31_2 {X : Xx} {g : Sg} : gf zft X (SHF, g) 1 2 31 = some (.int (g 31 2)) := rfl
theorem fi_31_3 {X : Xx} {g : Sg} : gf zft X (SHF, g) 1 3 31 = some (.int (g 31 3)) := rfl
theorem fr_31_4 {X : Xx} {g : Sg} : gf zft X (SHF, g) 1 4 31 = some (.ref 33) := rfl
theorem fr_31_5 {X : Xx} {g : Sg} : gf zft X (SHF, g) 1 5 31 = some (.ref 41) := rfl
theorem fi_33_0 {X : Xx} {g : Sg} : gf zft X (SHF, g) 2 0 33 = some (.int (g 33 0)) := rfl
theorem fr_33_1 {X : Xx} {g : Sg} : gf zft X (SHF, g) 2 1 33 = some (.ref 34) := rfl
theorem fr_33_2 {X : Xx} {g : Sg} : gf zft X (SHF, g) 2 2 33 = some (.ref 35) := rfl
theorem fr_33_3 {X : Xx} {g : Sg} : gf zft X (SHF, g) 2 3 33 = some (.ref 36) := rfl
theorem fr_33_4 {X : Xx} {g : Sg} : gf zft X (SHF, g) 2 4 33 = some (.ref 37) := rfl
theorem fr_33_5 {X : Xx} {g : Sg} : gf zft X (SHF, g) 2 5 33 = some (.ref 38) := rfl
theorem fr_33_6 {X : Xx} {g : Sg} : gf zft X (SHF, g) 2 6 33 = some (.ref 39) := rfl
theorem fr_33_7 {X : Xx} {g : Sg} : gf zft X (SHF, g) 2 7 33 = some (.ref 40) := rfl
theorem fi_42_0 {X : Xx} {g : Sg} : gf zft X (SHF, g) 0 0 42 = some (.int (g 42 0)) := rfl
theorem fr_42_1 {X : Xx} {g : Sg} : gf zft X (SHF, g) 0 1 42 = some (.ref 43) := rfl
theorem fr_42_2 {X : Xx} {g : Sg} : gf zft X (SHF, g) 0 2 42 = some (.ref 44) := rfl
theorem fr_42_3 {X : Xx} {g : Sg} : gf zft X (SHF, g) 0 3 42 = some (.ref 45) := rfl
theorem fr_42_4 {X : Xx} {g : Sg} : gf zft X (SHF, g) 0 4 42 = some (.ref 46) := rfl
theorem fr_48_0 {X : Xx} {g : Sg} : gf zft X (SHF, g) 8 0 48 = some (.ref 49) := rfl
theorem fr_48_1 {X : Xx} {g : Sg} : gf zft X (SHF, g) 8 1 48 = some (.ref 69) := rfl
theorem fr_48_2 {X : Xx} {g : Sg} : gf zft X (SHF, g) 8 2 48 = some (.ref 78) := rfl
theorem fr_48_3 {X : Xx} {g : Sg} : gf zft X (SHF, g) 8 3 48 = some (.ref 89) := rfl
theorem fi_49_0 {X : Xx} {g : Sg} : gf zft X (SHF, g) 3 0 49 = some (.int (g 49 0)) := rfl
theorem fi_49_1 {X : Xx} {g : Sg} : gf zft X (SHF, g) 3 1 49 = some (.int (g 49 1)) := rfl
theorem fr_49_2 {X : Xx} {g : Sg} : gf zft X (SHF, g) 3 2 49 = some (.ref 50) := rfl
theorem fr_49_3 {X : Xx} {g : Sg} : gf zft X (SHF, g) 3 3 49 = some (.ref 51) := rfl
theorem fr_49_4 {X : Xx} {g : Sg} : gf zft X (SHF, g) 3 4 49 = some (.ref 52) := rfl
theorem fr_49_5 {X : Xx} {g : Sg} : gf zft X (SHF, g) 3 5 49 = some (.ref 53) := rfl
theorem fi_49_6 {X : Xx} {g : Sg} : gf zft X (SHF, g) 3 6 49 = some (.int (g 49 6)) := rfl
theorem fr_49_7 {X : Xx} {g : Sg} : gf zft X (SHF, g) 3 7 49 = some (.ref 56) := rfl
theorem fr_49_8 {X : Xx} {g : Sg} : gf zft X (SHF, g) 3 8 49 = some (.ref 57) := rfl
theorem fr_49_9 {X : Xx} {g : Sg} : gf zft X (SHF, g) 3 9 49 = some (.ref 58) := rfl
theorem fr_49_10 {X : Xx} {g : Sg} : gf zft X (SHF, g) 3 10 49 = some (.ref 59) := rfl
theorem fr_49_11 {X : Xx} {g : Sg} : gf zft X (SHF, g) 3 11 49 = some (.ref 60) := rfl
theorem fr_49_12 {X : Xx} {g : Sg} : gf zft X (SHF, g) 3 12 49 = some (.ref 61) := rfl
theorem fr_49_13 {X : Xx} {g : Sg} : gf zft X (SHF, g) 3 13 49 = some (.ref 62) := rfl
theorem fr_49_14 {X : Xx} {g : Sg} : gf zft X (SHF, g) 3 14 49 = some (.ref 63) := rfl
theorem fr_49_15 {X : Xx} {g : Sg} : gf zft X (SHF, g) 3 15 49 = some (.ref 66) := rfl
theorem fr_49_16 {X : Xx} {g : Sg} : gf zft X (SHF, g) 3 16 49 = some (.ref 67) := rfl
theorem fr_49_17 {X : Xx} {g : Sg} : gf zft X (SHF, g) 3 17 49 = some (.ref 68) := rfl
theorem fr_69_0 {X : Xx} {g : Sg} : gf zft X (SHF, g) 6 0 69 = some (.ref 70) := rfl
theorem fi_69_1 {X : Xx} {g : Sg} : gf zft X (SHF, g) 6 1 69 = some (.int (g 69 1)) := rfl
theorem fr_69_2 {X : Xx} {g : Sg} : gf zft X (SHF, g) 6 2 69 = some (.ref 71) := rfl
theorem fr_69_3 {X : Xx} {g : Sg} : gf zft X (SHF, g) 6 3 69 = some (.ref 72) := rfl
theorem fr_69_4 {X : Xx} {g : Sg} : gf zft X (SHF, g) 6 4 69 = some (.ref 73) := rfl
theorem fr_69_5 {X : Xx} {g : Sg} : gf zft X (SHF, g) 6 5 69 = some (.ref 74) := rfl
theorem fr_69_6 {X : Xx} {g : Sg} : gf zft X (SHF, g) 6 6 69 = some (.ref 75) := rfl
theorem fr_69_7 {X : Xx} {g : Sg} : gf zft X (SHF, g) 6 7 69 = some (.ref 76) := rfl
theorem fi_69_8 {X : Xx} {g : Sg} : gf zft X (SHF, g) 6 8 69 = some (.int (g 69 8)) := rfl
theorem fr_69_9 {X : Xx} {g : Sg} : gf zft X (SHF, g) 6 9 69 = some (.ref 77) := rfl
theorem fi_78_0 {X : Xx} {g : Sg} : gf zft X (SHF, g) 1 0 78 = some (.int (g 78 0)) := rfl
theorem fr_78_1 {X : Xx} {g : Sg} : gf zft X (SHF, g) 1 1 78 = some (.ref 79) := rfl
theorem fi_78_2 {X : Xx} {g : Sg} : gf zft X (SHF, g) 1 2 78 = some (.int (g 78 2)) := rfl
theorem fi_78_3 {X : Xx} {g : Sg} : gf zft X (SHF, g) 1 3 78 = some (.int (g 78 3)) := rfl
theorem fr_78_4 {X : Xx} {g : Sg} : gf zft X (SHF, g) 1 4 78 = some (.ref 80) := rfl
theorem fr_78_5 {X : Xx} {g : Sg} : gf zft X (SHF, g) 1 5 78 = some (.ref 88) := rfl
theorem fi_80_0 {X : Xx} {g : Sg} : gf zft X (SHF, g) 2 0 80 = some (.int (g 80 0)) := rfl
theorem fr_80_1 {X : Xx} {g : Sg} : gf zft X (SHF, g) 2 1 80 = some (.ref 81) := rfl
theorem fr_80_2 {X : Xx} {g : Sg} : gf zft X (SHF, g) 2 2 80 = some (.ref 82) := rfl
theorem fr_80_3 {X : Xx} {g : Sg} : gf zft X (SHF, g) 2 3 80 = some (.ref 83) := rfl
theorem fr_80_4 {X : Xx} {g : Sg} : gf zft X (SHF, g) 2 4 80 = some (.ref 84) := rfl
theorem fr_80_5 {X : Xx} {g : Sg} : gf zft X (SHF, g) 2 5 80 = some (.ref 85) := rfl
theorem fr_80_6 {X : Xx} {g : Sg} : gf zft X (SHF, g) 2 6 80 = some (.ref 86) := rfl
theorem fr_80_7 {X : Xx} {g : Sg} : gf zft X (SHF, g) 2 7 80 = some (.ref 87) := rfl
theorem fi_89_0 {X : Xx} {g : Sg} : gf zft X (SHF, g) 0 0 89 = some (.int (g 89 0)) := rfl
theorem fr_89_1 {X : Xx} {g : Sg} : gf zft X (SHF, g) 0 1 89 = some (.ref 90) := rfl
theorem fr_89_2 {X : Xx} {g : Sg} : gf zft X (SHF, g) 0 2 89 = some (.ref 91) := rfl
theorem fr_89_3 {X : Xx} {g : Sg} : gf zft X (SHF, g) 0 3 89 = some (.ref 92) := rfl
theorem fr_89_4 {X : Xx} {g : Sg} : gf zft X (SHF, g) 0 4 89 = some (.ref 93) := rfl
theorem fr_94_0 {X : Xx} {g : Sg} : gf zft X (SHF, g) 8 0 94 = some (.ref 95) := rfl
theorem fr_94_1 {X : Xx} {g : Sg} : gf zft X (SHF, g) 8 1 94 = some (.ref 115) := rfl
theorem fr_94_2 {X : Xx} {g : Sg} : gf zft X (SHF, g) 8 2 94 = some (.ref 124) := rfl
theorem fr_94_3 {X : Xx} {g : Sg} : gf zft X (SHF, g) 8 3 94 = some (.ref 135) := rfl
theorem fi_95_0 {X : Xx} {g : Sg} : gf zft X (SHF, g) 3 0 95 = some (.int (g 95 0)) := rfl
theorem fi_95_1 {X : Xx} {g : Sg} : gf zft X (SHF, g) 3 1 95 = some (.int (g 95 1)) := rfl
theorem fr_95_2 {X : Xx} {g : Sg} : gf zft X (SHF, g) 3 2 95 = some (.ref 96) := rfl
theorem fr_95_3 {X : Xx} {g : Sg} : gf zft X (SHF, g) 3 3 95 = some (.ref 97) := rfl
theorem fr_95_4 {X : Xx} {g : Sg} : gf zft X (SHF, g) 3 4 95 = some (.ref 98) := rfl
theorem fr_95_5 {X : Xx} {g : Sg} : gf zft X (SHF, g) 3 5 95 = some (.ref 99) := rfl
theorem fi_95_6 {X : Xx} {g : Sg} : gf zft X (SHF, g) 3 6 95 = some (.int (g 95 6)) := rfl
theorem fr_95_7 {X : Xx} {g : Sg} : gf zft X (SHF, g) 3 7 95 = some (.ref 102) := rfl
theorem fr_95_8 {X : Xx} {g : Sg} : gf zft X (SHF, g) 3 8 95 = some (.ref 103) := rfl
theorem fr_95_9 {X : Xx} {g : Sg} : gf zft X (SHF, g) 3 9 95 = some (.ref 104) := rfl
theorem fr_95_10 {X : Xx} {g : Sg} : gf zft X (SHF, g) 3 10 95 = some (.ref 105) := rfl
theorem fr_95_11 {X : Xx} {g : Sg} : gf zft X (SHF, g) 3 11 95 = some (.ref 106) := rfl
theorem fr_95_12 {X : Xx} {g : Sg} : gf zft X (SHF, g) 3 12 95 = some (.ref 107) := rfl
theorem fr_95_13 {X : Xx} {g : Sg} : gf zft X (SHF, g) 3 13 95 = some (.ref 108) := rfl
theorem fr_95_14 {X : Xx} {g : Sg} : gf zft X (SHF, g) 3 14 95 = some (.ref 109) := rfl
theorem fr_95_15 {X : Xx} {g : Sg} : gf zft X (SHF, g) 3 15 95 = some (.ref 112) := rfl
theorem fr_95_16 {X : Xx} {g : Sg} : gf zft X (SHF, g) 3 16 95 = some (.ref 113) := rfl
theorem fr_95_17 {X : Xx} {g : Sg} : gf zft X (SHF, g) 3 17 95 = some (.ref 114) := rfl
theorem fr_115_0 {X : Xx} {g : Sg} : gf zft X (SHF, g) 6 0 115 = some (.ref 116) := rfl
theorem fi_115_1 {X : Xx} {g : Sg} : gf zft X (SHF, g) 6 1 115 = some (.int (g 115 1)) := rfl
theorem fr_115_2 {X : Xx} {g : Sg} : gf zft X (SHF, g) 6 2 115 = some (.ref 117) := rfl
theorem fr_115_3 {X : Xx} {g : Sg} : gf zft X (SHF, g) 6 3 115 = some (.ref 118) := rfl
theorem fr_115_4 {X : Xx} {g : Sg} : gf zft X (SHF, g) 6 4 115 = some (.ref 119) := rfl
theorem fr_115_5 {X : Xx} {g : Sg} : gf zft X (SHF, g) 6 5 115 = some (.ref 120) := rfl
theorem fr_115_6 {X : Xx} {g : Sg} : gf zft X (SHF, g) 6 6 115 = some (.ref 121) := rfl
theorem fr_115_7 {X : Xx} {g : Sg} : gf zft X (SHF, g) 6 7 115 = some (.ref 122) := rfl
theorem fi_115_8 {X : Xx} {g : Sg} : gf zft X (SHF, g) 6 8 115 = some (.int (g 115 8)) := rfl
theorem fr_115_9 {X : Xx} {g : Sg} : gf zft X (SHF, g) 6 9 115 = some (.ref 123) := rfl
theorem fi_124_0 {X : Xx} {g : Sg} : gf zft X (SHF, g) 1 0 124 = some (.int (g 124 0)) := rfl
theorem fr_124_1 {X : Xx} {g : Sg} : gf zft X (SHF, g) 1 1 124 = some (.ref 125) := rfl
theorem fi_124_2 {X : Xx} {g : Sg} : gf zft X (SHF, g) 1 2 124 = some (.int (g 124 2)) := rfl
theorem fi_124_3 {X : Xx} {g : Sg} : gf zft X (SHF, g) 1 3 124 = some (.int (g 124 3)) := rfl
theorem fr_124_4 {X : Xx} {g : Sg} : gf zft X (SHF, g) 1 4 124 = some (.ref 126) := rfl
theorem fr_124_5 {X : Xx} {g : Sg} : gf zft X (SHF, g) 1 5 124 = some (.ref 134) := rfl
theorem fi_126_0 {X : Xx} {g : Sg} : gf zft X (SHF, g) 2 0 126 = some (.int (g 126 0)) := rfl
theorem fr_126_1 {X : Xx} {g : Sg} : gf zft X (SHF, g) 2 1 126 = some (.ref 127) := rfl
theorem fr_126_2 {X : Xx} {g : Sg} : gf zft X (SHF, g) 2 2 126 = some (.ref 128) := rfl
theorem fr_126_3 {X : Xx} {g : Sg} : gf zft X (SHF, g) 2 3 126 = some (.ref 129) := rfl
theorem fr_126_4 {X : Xx} {g : Sg} : gf zft X (SHF, g) 2 4 126 = some (.ref 130) := rfl
theorem fr_126_5 {X : Xx} {g : Sg} : gf zft X (SHF, g) 2 5 126 = some (.ref 131) := rfl
theorem fr_126_6 {X : Xx} {g : Sg} : gf zft X (SHF, g) 2 6 126 = some (.ref 132) := rfl
theorem fr_126_7 {X : Xx} {g : Sg} : gf zft X (SHF, g) 2 7 126 = some (.ref 133) := rfl
theorem fi_135_0 {X : Xx} {g : Sg} : gf zft X (SHF, g) 0 0 135 = some (.int (g 135 0)) := rfl
theorem fr_135_1 {X : Xx} {g : Sg} : gf zft X (SHF, g) 0 1 135 = some (.ref 136) := rfl
theorem fr_135_2 {X : Xx} {g : Sg} : gf zft X (SHF, g) 0 2 135 = some (.ref 137) := rfl
theorem fr_135_3 {X : Xx} {g : Sg} : gf zft X (SHF, g) 0 3 135 = some (.ref 138) := rfl
theorem fr_135_4 {X : Xx} {g : Sg} : gf zft X (SHF, g) 0 4 135 = some (.ref 139) := rfl
theorem fr_140_0 {X : Xx} {g : Sg} : gf zft X (SHF, g) 8 0 140 = some (.ref 141) := rfl
theorem fr_140_1 {X : Xx} {g : Sg} : gf zft X (SHF, g) 8 1 140 = some (.ref 161) := rfl
theorem fr_140_2 {X : Xx} {g : Sg} : gf zft X (SHF, g) 8 2 140 = some (.ref 170) := rfl
theorem fr_140_3 {X : Xx} {g : Sg} : gf zft X (SHF, g) 8 3 140 = some (.ref 181) := rfl
theorem fi_141_0 {X : Xx} {g : Sg} : gf zft X (SHF, g) 3 0 141 = some (.int (g 141 0)) := rfl
theorem fi_141_1 {X : Xx} {g : Sg} : gf zft X (SHF, g) 3 1 141 = some (.int (g 141 1)) := rfl
theorem fr_141_2 {X : Xx} {g : Sg} : gf zft X (SHF, g) 3 2 141 = some (.ref 142) := rfl
theorem fr_141_3 {X : Xx} {g : Sg} : gf zft X (SHF, g) 3 3 141 = some (.ref 143) := rfl
theorem fr_141_4 {X : Xx} {g : Sg} : gf zft X (SHF, g) 3 4 141 = some (.ref 144) := rfl
theorem fr_141_5 {X : Xx} {g : Sg} : gf zft X (SHF, g) 3 5 141 = some (.ref 145) := rfl
theorem fi_141_6 {X : Xx} {g : Sg} : gf zft X (SHF, g) 3 6 141 = some (.int (g 141 6)) := rfl
theorem fr_141_7 {X : Xx} {g : Sg} : gf zft X (SHF, g) 3 7 141 = some (.ref 148) := rfl
theorem fr_141_8 {X : Xx} {g : Sg} : gf zft X (SHF, g) 3 8 141 = some (.ref 149) := rfl
theorem fr_141_9 {X : Xx} {g : Sg} : gf zft X (SHF, g) 3 9 141 = some (.ref 150) := rfl
theorem fr_141_10 {X : Xx} {g : Sg} : gf zft X (SHF, g) 3 10 141 = some (.ref 151) := rfl
theorem fr_141_11 {X : Xx} {g : Sg} : gf zft X (SHF, g) 3 11 141 = some (.ref 152) := rfl
theorem fr_141_12 {X : Xx} {g : Sg} : gf zft X (SHF, g) 3 12 141 = some (.ref 153) := rfl
theorem fr_141_13 {X : Xx} {g : Sg} : gf zft X (SHF, g) 3 13 141 = some (.ref 154) := rfl
theorem fr_141_14 {X : Xx} {g : Sg} : gf zft X (SHF, g) 3 14 141 = some (.ref 155) := rfl
theorem fr_141_15 {X : Xx} {g : Sg} : gf zft X (SHF, g) 3 15 141 = some (.ref 158) := rfl
theorem fr_141_16 {X : Xx} {g : Sg} : gf zft X (SHF, g) 3 16 141 = some (.ref 159) := rfl
theorem fr_141_17 {X : Xx} {g : Sg} : gf zft X (SHF, g) 3 17 141 = some (.ref 160) := rfl
theorem fr_161_0 {X : Xx} {g : Sg} : gf zft X (SHF, g) 6 0 161 = some (.ref 162) := rfl
theorem fi_161_1 {X : Xx} {g : Sg} : gf zft X (SHF, g) 6 1 161 = some (.int (g 161 1)) := rfl
theorem fr_161_2 {X : Xx} {g : Sg} : gf zft X (SHF, g) 6 2 161 = some (.ref 163) := rfl
theorem fr_161_3 {X : Xx} {g : Sg} : gf zft X (SHF, g) 6 3 161 = some (.ref 164) := rfl
theorem fr_161_4 {X : Xx} {g : Sg} : gf zft X (SHF, g) 6 4 161 = some (.ref 165) := rfl
theorem fr_161_5 {X : Xx} {g : Sg} : gf zft X (SHF, g) 6 5 161 = some (.ref 166) := rfl
theorem fr_161_6 {X : Xx} {g : Sg} : gf zft X (SHF, g) 6 6 161 = some (.ref 167) := rfl
theorem fr_161_7 {X : Xx} {g : Sg} : gf zft X (SHF, g) 6 7 161 = some (.ref 168) := rfl
theorem fi_161_8 {X : Xx} {g : Sg} : gf zft X (SHF, g) 6 8 161 = some (.int (g 161 8)) := rfl
theorem fr_161_9 {X : Xx} {g : Sg} : gf zft X (SHF, g) 6 9 161 = some (.ref 169) := rfl
theorem fi_170_0 {X : Xx} {g : Sg} : gf zft X (SHF, g) 1 0 170 = some (.int (g 170 0)) := rfl
theorem fr_170_1 {X : Xx} {g : Sg} : gf zft X (SHF, g) 1 1 170 = some (.ref 171) := rfl
theorem fi_170_2 {X : Xx} {g : Sg} : gf zft X (SHF, g) 1 2 170 = some (.int (g 170 2)) := rfl
theorem fi_170_3 {X : Xx} {g : Sg} : gf zft X (SHF, g) 1 3 170 = some (.int (g 170 3)) := rfl
theorem fr_170_4 {X : Xx} {g : Sg} : gf zft X (SHF, g) 1 4 170 = some (.ref 172) := rfl
theorem fr_170_5 {X : Xx} {g : Sg} : gf zft X (SHF, g) 1 5 170 = some (.ref 180) := rfl
theorem fi_172_0 {X : Xx} {g : Sg} : gf zft X (SHF, g) 2 0 172 = some (.int (g 172 0)) := rfl
theorem fr_172_1 {X : Xx} {g : Sg} : gf zft X (SHF, g) 2 1 172 = some (.ref 173) := rfl
theorem fr_172_2 {X : Xx} {g : Sg} : gf zft X (SHF, g) 2 2 172 = some (.ref 174) := rfl
theorem fr_172_3 {X : Xx} {g : Sg} : gf zft X (SHF, g) 2 3 172 = some (.ref 175) := rfl
theorem fr_172_4 {X : Xx} {g : Sg} : gf zft X (SHF, g) 2 4 172 = some (.ref 176) := rfl
theorem fr_172_5 {X : Xx} {g : Sg} : gf zft X (SHF, g) 2 5 172 = some (.ref 177) := rfl
theorem fr_172_6 {X : Xx} {g : Sg} : gf zft X (SHF, g) 2 6 172 = some (.ref 178) := rfl
theorem fr_172_7 {X : Xx} {g : Sg} : gf zft X (SHF, g) 2 7 172 = some (.ref 179) := rfl
theorem fi_181_0 {X : Xx} {g : Sg} : gf zft X (SHF, g) 0 0 181 = some (.int (g 181 0)) := rfl
theorem fr_181_1 {X : Xx} {g : Sg} : gf zft X (SHF, g) 0 1 181 = some (.ref 182) := rfl
theorem fr_181_2 {X : Xx} {g : Sg} : gf zft X (SHF, g) 0 2 181 = some (.ref 183) := rfl
theorem fr_181_3 {X : Xx} {g : Sg} : gf zft X (SHF, g) 0 3 181 = some (.ref 184) := rfl
theorem fr_181_4 {X : Xx} {g : Sg} : gf zft X (SHF, g) 0 4 181 = some (.ref 185) := rfl
theorem fr_187_0 {X : Xx} {g : Sg} : gf zft X (SHF, g) 10 0 187 = some (.ref 188) := rfl
theorem fr_187_1 {X : Xx} {g : Sg} : gf zft X (SHF, g) 10 1 187 = some (.ref 189) := rfl
theorem fr_187_2 {X : Xx} {g : Sg} : gf zft X (SHF, g) 10 2 187 = some (.ref 190) := rfl
theorem fi_187_3 {X : Xx} {g : Sg} : gf zft X (SHF, g) 10 3 187 = some (.int (g 187 3)) := rfl
theorem fr_191_0 {X : Xx} {g : Sg} : gf zft X (SHF, g) 4 0 191 = some (.ref 192) := rfl
theorem fi_191_1 {X : Xx} {g : Sg} : gf zft X (SHF, g) 4 1 191 = some (.int (g 191 1)) := rfl
theorem fi_191_2 {X : Xx} {g : Sg} : gf zft X (SHF, g) 4 2 191 = some (.int (g 191 2)) := rfl
theorem fi_191_3 {X : Xx} {g : Sg} : gf zft X (SHF, g) 4 3 191 = some (.int (g 191 3)) := rfl
theorem fi_191_4 {X : Xx} {g : Sg} : gf zft X (SHF, g) 4 4 191 = some (.int (g 191 4)) := rfl
theorem fi_191_5 {X : Xx} {g : Sg} : gf zft X (SHF, g) 4 5 191 = some (.int (g 191 5)) := rfl
theorem fi_191_6 {X : Xx} {g : Sg} : gf zft X (SHF, g) 4 6 191 = some (.int (g 191 6)) := rfl
theorem fi_191_7 {X : Xx} {g : Sg} : gf zft X (SHF, g) 4 7 191 = some (.int (g 191 7)) := rfl
theorem fi_191_8 {X : Xx} {g : Sg} : gf zft X (SHF, g) 4 8 191 = some (.int (g 191 8)) := rfl
theorem fi_191_9 {X : Xx} {g : Sg} : gf zft X (SHF, g) 4 9 191 = some (.int (g 191 9)) := rfl
theorem fi_191_10 {X : Xx} {g : Sg} : gf zft X (SHF, g) 4 10 191 = some (.int (g 191 10)) := rfl
theorem fi_192_0 {X : Xx} {g : Sg} : gf zft X (SHF, g) 2 0 192 = some (.int (g 192 0)) := rfl
theorem fr_192_1 {X : Xx} {g : Sg} : gf zft X (SHF, g) 2 1 192 = some (.ref 193) := rfl
theorem fr_192_2 {X : Xx} {g : Sg} : gf zft X (SHF, g) 2 2 192 = some (.ref 194) := rfl
theorem fr_192_3 {X : Xx} {g : Sg} : gf zft X (SHF, g) 2 3 192 = some (.ref 195) := rfl
theorem fr_192_4 {X : Xx} {g : Sg} : gf zft X (SHF, g) 2 4 192 = some (.ref 196) := rfl
theorem fr_192_5 {X : Xx} {g : Sg} : gf zft X (SHF, g) 2 5 192 = some (.ref 197) := rfl
theorem fr_192_6 {X : Xx} {g : Sg} : gf zft X (SHF, g) 2 6 192 = some (.ref 198) := rfl
theorem fr_192_7 {X : Xx} {g : Sg} : gf zft X (SHF, g) 2 7 192 = some (.ref 199) := rfl
theorem fr_200_0 {X : Xx} {g : Sg} : gf zft X (SHF, g) 5 0 200 = some (.ref 201) := rfl
theorem fr_200_1 {X : Xx} {g : Sg} : gf zft X (SHF, g) 5 1 200 = some (.ref 202) := rfl
theorem fr_200_2 {X : Xx} {g : Sg} : gf zft X (SHF, g) 5 2 200 = some (.ref 203) := rfl
theorem fr_200_3 {X : Xx} {g : Sg} : gf zft X (SHF, g) 5 3 200 = some (.ref 204) := rfl
theorem fr_200_4 {X : Xx} {g : Sg} : gf zft X (SHF, g) 5 4 200 = some (.ref 205) := rfl
theorem fr_200_5 {X : Xx} {g : Sg} : gf zft X (SHF, g) 5 5 200 = some (.ref 206) := rfl
theorem fr_200_6 {X : Xx} {g : Sg} : gf zft X (SHF, g) 5 6 200 = some (.ref 207) := rfl
theorem fi_200_7 {X : Xx} {g : Sg} : gf zft X (SHF, g) 5 7 200 = some (.int (g 200 7)) := rfl
theorem fi_208_0 {X : Xx} {g : Sg} : gf zft X (SHF, g) 9 0 208 = some (.int (g 208 0)) := rfl
theorem fi_208_1 {X : Xx} {g : Sg} : gf zft X (SHF, g) 9 1 208 = some (.int (g 208 1)) := rfl
theorem fi_208_2 {X : Xx} {g : Sg} : gf zft X (SHF, g) 9 2 208 = some (.int (g 208 2)) := rfl
theorem fi_208_3 {X : Xx} {g : Sg} : gf zft X (SHF, g) 9 3 208 = some (.int (g 208 3)) := rfl
theorem fi_208_4 {X : Xx} {g : Sg} : gf zft X (SHF, g) 9 4 208 = some (.int (g 208 4)) := rfl
theorem fi_208_5 {X : Xx} {g : Sg} : gf zft X (SHF, g) 9 5 208 = some (.int (g 208 5)) := rfl
theorem fi_208_6 {X : Xx} {g : Sg} : gf zft X (SHF, g) 9 6 208 = some (.int (g 208 6)) := rfl
theorem fi_208_7 {X : Xx} {g : Sg} : gf zft X (SHF, g) 9 7 208 = some (.int (g 208 7)) := rfl
theorem fr_208_8 {X : Xx} {g : Sg} : gf zft X (SHF, g) 9 8 208 = some (.ref 209) := rfl
theorem fr_208_9 {X : Xx} {g : Sg} : gf zft X (SHF, g) 9 9 208 = some (.ref 210) := rfl
theorem fr_208_10 {X : Xx} {g : Sg} : gf zft X (SHF, g) 9 10 208 = some (.ref 211) := rfl
theorem fr_208_11 {X : Xx} {g : Sg} : gf zft X (SHF, g) 9 11 208 = some (.ref 212) := rfl
theorem fr_208_12 {X : Xx} {g : Sg} : gf zft X (SHF, g) 9 12 208 = some (.ref 213) := rfl
theorem fr_208_13 {X : Xx} {g : Sg} : gf zft X (SHF, g) 9 13 208 = some (.ref 214) := rfl
theorem fr_215_0 {X : Xx} {g : Sg} : gf zft X (SHF, g) 12 0 215 = some (.ref 216) := rfl
theorem fr_215_1 {X : Xx} {g : Sg} : gf zft X (SHF, g) 12 1 215 = some (.ref 217) := rfl
theorem fr_215_2 {X : Xx} {g : Sg} : gf zft X (SHF, g) 12 2 215 = some (.ref 218) := rfl
theorem fi_215_3 {X : Xx} {g : Sg} : gf zft X (SHF, g) 12 3 215 = some (.int (g 215 3)) := rfl
theorem fi_215_4 {X : Xx} {g : Sg} : gf zft X (SHF, g) 12 4 215 = some (.int (g 215 4)) := rfl
theorem fi_215_5 {X : Xx} {g : Sg} : gf zft X (SHF, g) 12 5 215 = some (.int (g 215 5)) := rfl
theorem fi_215_6 {X : Xx} {g : Sg} : gf zft X (SHF, g) 12 6 215 = some (.int (g 215 6)) := rfl
theorem fi_215_7 {X : Xx} {g : Sg} : gf zft X (SHF, g) 12 7 215 = some (.int (g 215 7)) := rfl
theorem fi_215_8 {X : Xx} {g : Sg} : gf zft X (SHF, g) 12 8 215 = some (.int (g 215 8)) := rfl
theorem fi_215_9 {X : Xx} {g : Sg} : gf zft X (SHF, g) 12 9 215 = some (.int (g 215 9)) := rfl
theorem fi_215_10 {X : Xx} {g : Sg} : gf zft X (SHF, g) 12 10 215 = some (.int (g 215 10)) := rfl
theorem fi_215_11 {X : Xx} {g : Sg} : gf zft X (SHF, g) 12 11 215 = some (.int (g 215 11)) := rfl
theorem fr_215_12 {X : Xx} {g : Sg} : gf zft X (SHF, g) 12 12 215 = some (.ref 219) := rfl
theorem fr_215_13 {X : Xx} {g : Sg} : gf zft X (SHF, g) 12 13 215 = some (.ref 220) := rfl
theorem fi_215_14 {X : Xx} {g : Sg} : gf zft X (SHF, g) 12 14 215 = some (.int (g 215 14)) := rfl
theorem fi_215_15 {X : Xx} {g : Sg} : gf zft X (SHF, g) 12 15 215 = some (.int (g 215 15)) := rfl
theorem fi_215_16 {X : Xx} {g : Sg} : gf zft X (SHF, g) 12 16 215 = some (.int (g 215 16)) := rfl
theorem fi_215_17 {X : Xx} {g : Sg} : gf zft X (SHF, g) 12 17 215 = some (.int (g 215 17)) := rfl
theorem fi_215_18 {X : Xx} {g : Sg} : gf zft X (SHF, g) 12 18 215 = some (.int (g 215 18)) := rfl
theorem fi_215_19 {X : Xx} {g : Sg} : gf zft X (SHF, g) 12 19 215 = some (.int (g 215 19)) := rfl
theorem fr_215_20 {X : Xx} {g : Sg} : gf zft X (SHF, g) 12 20 215 = some (.ref 221) := rfl
theorem fr_215_21 {X : Xx} {g : Sg} : gf zft X (SHF, g) 12 21 215 = some (.ref 222) := rfl
theorem fr_215_22 {X : Xx} {g : Sg} : gf zft X (SHF, g) 12 22 215 = some (.ref 223) := rfl
theorem fr_215_23 {X : Xx} {g : Sg} : gf zft X (SHF, g) 12 23 215 = some (.ref 224) := rfl
theorem fr_215_24 {X : Xx} {g : Sg} : gf zft X (SHF, g) 12 24 215 = some (.ref 225) := rfl
theorem fr_215_25 {X : Xx} {g : Sg} : gf zft X (SHF, g) 12 25 215 = some (.ref 226) := rfl
theorem fr_215_26 {X : Xx} {g : Sg} : gf zft X (SHF, g) 12 26 215 = some (.ref 227) := rfl
theorem fr_215_27 {X : Xx} {g : Sg} : gf zft X (SHF, g) 12 27 215 = some (.ref 228) := rfl
theorem fr_215_28 {X : Xx} {g : Sg} : gf zft X (SHF, g) 12 28 215 = some (.ref 229) := rfl
theorem fr_215_29 {X : Xx} {g : Sg} : gf zft X (SHF, g) 12 29 215 = some (.ref 230) := rfl
theorem fi_215_30 {X : Xx} {g : Sg} : gf zft X (SHF, g) 12 30 215 = some (.int (g 215 30)) := rfl
theorem fi_215_31 {X : Xx} {g : Sg} : gf zft X (SHF, g) 12 31 215 = some (.int (g 215 31)) := rfl
theorem fi_215_32 {X : Xx} {g : Sg} : gf zft X (SHF, g) 12 32 215 = some (.int (g 215 32)) := rfl
