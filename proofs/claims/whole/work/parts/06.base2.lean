/-! the shape of the world -/
def SH : List sh_T := [
  (1, 8, 14, [2, 45, 88, 95, 98, 105, 108, 114, 121, 122, 123, 0, 0, 0]),
  (1, 6, 3, [3, 4, 0]),
  (2, 2, 8, [4, 9, 14, 19, 24, 29, 34, 39]),
  (0, 0, 12, []),
  (1, 0, 10, [6, 7, 8, 9, 0, 0, 0, 0, 0, 0]),
  (0, 0, 8, []),
  (0, 0, 8, []),
  (0, 0, 8, []),
  (0, 0, 8, []),
  (1, 0, 10, [11, 12, 13, 14, 0, 0, 0, 0, 0, 0]),
  (0, 0, 8, []),
  (0, 0, 8, []),
  (0, 0, 8, []),
  (0, 0, 8, []),
  (1, 0, 10, [16, 17, 18, 19, 0, 0, 0, 0, 0, 0]),
  (0, 0, 8, []),
  (0, 0, 8, []),
  (0, 0, 8, []),
  (0, 0, 8, []),
  (1, 0, 10, [21, 22, 23, 24, 0, 0, 0, 0, 0, 0]),
  (0, 0, 8, []),
  (0, 0, 8, []),
  (0, 0, 8, []),
  (0, 0, 8, []),
  (1, 0, 10, [26, 27, 28, 29, 0, 0, 0, 0, 0, 0]),
  (0, 0, 8, []),
  (0, 0, 8, []),
  (0, 0, 8, []),
  (0, 0, 8, []),
  (1, 0, 10, [31, 32, 33, 34, 0, 0, 0, 0, 0, 0]),
  (0, 0, 8, []),
  (0, 0, 8, []),
  (0, 0, 8, []),
  (0, 0, 8, []),
  (1, 0, 10, [36, 37, 38, 39, 0, 0, 0, 0, 0, 0]),
  (0, 0, 8, []),
  (0, 0, 8, []),
  (0, 0, 8, []),
  (0, 0, 8, []),
  (1, 0, 10, [41, 42, 43, 44, 0, 0, 0, 0, 0, 0]),
  (0, 0, 8, []),
  (0, 0, 8, []),
  (0, 0, 8, []),
  (0, 0, 8, []),
  (1, 6, 3, [46, 47, 0]),
  (2, 2, 8, [47, 52, 57, 62, 67, 72, 77, 82]),
  (0, 0, 12, []),
  (1, 0, 10, [49, 50, 51, 52, 0, 0, 0, 0, 0, 0]),
  (0, 0, 8, []),
  (0, 0, 8, []),
  (0, 0, 8, []),
  (0, 0, 8, []),
  (1, 0, 10, [54, 55, 56, 57, 0, 0, 0, 0, 0, 0]),
  (0, 0, 8, []),
  (0, 0, 8, []),
  (0, 0, 8, []),
  (0, 0, 8, []),
  (1, 0, 10, [59, 60, 61, 62, 0, 0, 0, 0, 0, 0]),
  (0, 0, 8, []),
  (0, 0, 8, []),
  (0, 0, 8, []),
  (0, 0, 8, []),
  (1, 0, 10, [64, 65, 66, 67, 0, 0, 0, 0, 0, 0]),
  (0, 0, 8, []),
  (0, 0, 8, []),
  (0, 0, 8, []),
  (0, 0, 8, []),
  (1, 0, 10, [69, 70, 71, 72, 0, 0, 0, 0, 0, 0]),
  (0, 0, 8, []),
  (0, 0, 8, []),
  (0, 0, 8, []),
  (0, 0, 8, []),
  (1, 0, 10, [74, 75, 76, 77, 0, 0, 0, 0, 0, 0]),
  (0, 0, 8, []),
  (0, 0, 8, []),
  (0, 0, 8, []),
  (0, 0, 8, []),
  (1, 0, 10, [79, 80, 81, 82, 0, 0, 0, 0, 0, 0]),
  (0, 0, 8, []),
  (0, 0, 8, []),
  (0, 0, 8, []),
  (0, 0, 8, []),
  (1, 0, 10, [84, 85, 86, 87, 0, 0, 0, 0, 0, 0]),
  (0, 0, 8, []),
  (0, 0, 8, []),
  (0, 0, 8, []),
  (0, 0, 8, []),
  (1, 1, 7, [2, 89, 90, 91, 92, 93, 94]),
  (0, 0, 72, []),
  (0, 0, 96, []),
  (0, 0, 96, []),
  (0, 0, 12, []),
  (0, 0, 12, []),
  (0, 0, 12, []),
  (1, 2, 4, [2, 96, 97, 0]),
  (0, 0, 8, []),
  (0, 0, 8, []),
  (1, 4, 13, [2, 88, 95, 99, 100, 101, 102, 103, 104, 0, 0, 0, 0]),
  (0, 0, 12, []),
  (0, 0, 12, []),
  (0, 0, 12, []),
  (0, 0, 96, []),
  (0, 0, 8, []),
  (0, 0, 8, []),
  (1, 3, 9, [2, 106, 0, 0, 0, 0, 0, 0, 107]),
  (0, 0, 8, []),
  (0, 0, 12, []),
  (1, 5, 14, [2, 109, 0, 0, 0, 0, 0, 0, 98, 110, 111, 112, 113, 0]),
  (0, 0, 8, []),
  (0, 0, 12, []),
  (0, 0, 12, []),
  (0, 0, 2, []),
  (0, 0, 2, []),
  (1, 7, 5, [115, 116, 0, 0, 0]),
  (0, 1, 80, []),
  (1, 0, 10, [117, 118, 119, 120, 0, 0, 0, 0, 0, 0]),
  (0, 0, 8, []),
  (0, 0, 8, []),
  (0, 0, 8, []),
  (0, 0, 8, []),
  (0, 0, 12, []),
  (0, 0, 4, []),
  (0, 0, 8, []),
  (1, 9, 66, [0, 0, 0, 125, 126, 127, 128, 129, 130, 131, 132, 133, 134, 135, 0, 136, 137, 0, 138, 139, 0, 0, 0, 140, 141, 142, 143, 144, 145, 146, 147, 148, 149, 150, 151, 152, 153, 154, 0, 0, 0, 0, 155, 0, 0, 0, 156, 157, 158, 159, 0, 0, 0, 0, 0, 160, 161, 162, 163, 164, 165, 166, 167, 168, 169, 170]),
  (0, 0, 8, []),
  (0, 0, 8, []),
  (0, 0, 8, []),
  (0, 0, 8, []),
  (0, 0, 8, []),
  (0, 0, 8, []),
  (0, 0, 64, []),
  (0, 0, 64, []),
  (0, 0, 64, []),
  (0, 0, 64, []),
  (0, 0, 12, []),
  (0, 0, 8, []),
  (0, 0, 12, []),
  (0, 0, 8, []),
  (0, 0, 8, []),
  (0, 0, 12, []),
  (0, 0, 12, []),
  (0, 0, 12, []),
  (0, 0, 96, []),
  (0, 0, 12, []),
  (0, 0, 12, []),
  (0, 0, 12, []),
  (0, 0, 12, []),
  (0, 0, 12, []),
  (0, 0, 12, []),
  (0, 0, 4, []),
  (0, 0, 4, []),
  (0, 0, 8, []),
  (0, 0, 8, []),
  (0, 0, 2, []),
  (0, 0, 80, []),
  (0, 0, 8, []),
  (0, 0, 8, []),
  (0, 0, 8, []),
  (0, 0, 8, []),
  (0, 0, 8, []),
  (0, 0, 8, []),
  (0, 0, 8, []),
  (0, 0, 8, []),
  (0, 0, 8, []),
  (0, 0, 8, []),
  (0, 0, 64, []),
  (0, 0, 64, []),
  (0, 0, 64, []),
  (0, 0, 64, []),
  (0, 0, 12, []),
  (3, 3, 1, [])]
theorem SH_len : SH.length = 171 := by decide +kernel
theorem SH_0 : SH[0]? = some (1, 8, 14, [2, 45, 88, 95, 98, 105, 108, 114, 121, 122, 123, 0, 0, 0]) := rfl
theorem SH_1 : SH[1]? = some (1, 6, 3, [3, 4, 0]) := rfl
theorem SH_2 : SH[2]? = some (2, 2, 8, [4, 9, 14, 19, 24, 29, 34, 39]) := rfl
theorem SH_3 : SH[3]? = some (0, 0, 12, []) := rfl
theorem SH_4 : SH[4]? = some (1, 0, 10, [6, 7, 8, 9, 0, 0, 0, 0, 0, 0]) := rfl
theorem SH_5 : SH[5]? = some (0, 0, 8, []) := rfl
theorem SH_6 : SH[6]? = some (0, 0, 8, []) := rfl
theorem SH_7 : SH[7]? = some (0, 0, 8, []) := rfl
theorem SH_8 : SH[8]? = some (0, 0, 8, []) := rfl
theorem SH_9 : SH[9]? = some (1, 0, 10, [11, 12, 13, 14, 0, 0, 0, 0, 0, 0]) := rfl
theorem SH_10 : SH[10]? = some (0, 0, 8, []) := rfl
theorem SH_11 : SH[11]? = some (0, 0, 8, []) := rfl
theorem SH_12 : SH[12]? = some (0, 0, 8, []) := rfl
theorem SH_13 : SH[13]? = some (0, 0, 8, []) := rfl
theorem SH_14 : SH[14]? = some (1, 0, 10, [16, 17, 18, 19, 0, 0, 0, 0, 0, 0]) := rfl
theorem SH_15 : SH[15]? = some (0, 0, 8, []) := rfl
theorem SH_16 : SH[16]? = some (0, 0, 8, []) := rfl
theorem SH_17 : SH[17]? = some (0, 0, 8, []) := rfl
theorem SH_18 : SH[18]? = some (0, 0, 8, []) := rfl
theorem SH_19 : SH[19]? = some (1, 0, 10, [21, 22, 23, 24, 0, 0, 0, 0, 0, 0]) := rfl
theorem SH_20 : SH[20]? = some (0, 0, 8, []) := rfl
theorem SH_21 : SH[21]? = some (0, 0, 8, []) := rfl
theorem SH_22 : SH[22]? = some (0, 0, 8, []) := rfl
theorem SH_23 : SH[23]? = some (0, 0, 8, []) := rfl
theorem SH_24 : SH[24]? = some (1, 0, 10, [26, 27, 28, 29, 0, 0, 0, 0, 0, 0]) := rfl
theorem SH_25 : SH[25]? = some (0, 0, 8, []) := rfl
theorem SH_26 : SH[26]? = some (0, 0, 8, []) := rfl
theorem SH_27 : SH[27]? = some (0, 0, 8, []) := rfl
theorem SH_28 : SH[28]? = some (0, 0, 8, []) := rfl
theorem SH_29 : SH[29]? = some (1, 0, 10, [31, 32, 33, 34, 0, 0, 0, 0, 0, 0]) := rfl
theorem SH_30 : SH[30]? = some (0, 0, 8, []) := rfl
theorem SH_31 : SH[31]? = some (0, 0, 8, []) := rfl
theorem SH_32 : SH[32]? = some (0, 0, 8, []) := rfl
theorem SH_33 : SH[33]? = some (0, 0, 8, []) := rfl
theorem SH_34 : SH[34]? = some (1, 0, 10, [36, 37, 38, 39, 0, 0, 0, 0, 0, 0]) := rfl
theorem SH_35 : SH[35]? = some (0, 0, 8, []) := rfl
theorem SH_36 : SH[36]? = some (0, 0, 8, []) := rfl
theorem SH_37 : SH[37]? = some (0, 0, 8, []) := rfl
theorem SH_38 : SH[38]? = some (0, 0, 8, []) := rfl
theorem SH_39 : SH[39]? = some (1, 0, 10, [41, 42, 43, 44, 0, 0, 0, 0, 0, 0]) := rfl
theorem SH_40 : SH[40]? = some (0, 0, 8, []) := rfl
theorem SH_41 : SH[41]? = some (0, 0, 8, []) := rfl
theorem SH_42 : SH[42]? = some (0, 0, 8, []) := rfl
theorem SH_43 : SH[43]? = some (0, 0, 8, []) := rfl
theorem SH_44 : SH[44]? = some (1, 6, 3, [46, 47, 0]) := rfl
theorem SH_45 : SH[45]? = some (2, 2, 8, [47, 52, 57, 62, 67, 72, 77, 82]) := rfl
theorem SH_46 : SH[46]? = some (0, 0, 12, []) := rfl
theorem SH_47 : SH[47]? = some (1, 0, 10, [49, 50, 51, 52, 0, 0, 0, 0, 0, 0]) := rfl
theorem SH_48 : SH[48]? = some (0, 0, 8, []) := rfl
theorem SH_49 : SH[49]? = some (0, 0, 8, []) := rfl
theorem SH_50 : SH[50]? = some (0, 0, 8, []) := rfl
theorem SH_51 : SH[51]? = some (0, 0, 8, []) := rfl
theorem SH_52 : SH[52]? = some (1, 0, 10, [54, 55, 56, 57, 0, 0, 0, 0, 0, 0]) := rfl
theorem SH_53 : SH[53]? = some (0, 0, 8, []) := rfl
theorem SH_54 : SH[54]? = some (0, 0, 8, []) := rfl
theorem SH_55 : SH[55]? = some (0, 0, 8, []) := rfl
theorem SH_56 : SH[56]? = some (0, 0, 8, []) := rfl
theorem SH_57 : SH[57]? = some (1, 0, 10, [59, 60, 61, 62, 0, 0, 0, 0, 0, 0]) := rfl
theorem SH_58 : SH[58]? = some (0, 0, 8, []) := rfl
theorem SH_59 : SH[59]? = some (0, 0, 8, []) := rfl
theorem SH_60 : SH[60]? = some (0, 0, 8, []) := rfl
theorem SH_61 : SH[61]? = some (0, 0, 8, []) := rfl
theorem SH_62 : SH[62]? = some (1, 0, 10, [64, 65, 66, 67, 0, 0, 0, 0, 0, 0]) := rfl
theorem SH_63 : SH[63]? = some (0, 0, 8, []) := rfl
theorem SH_64 : SH[64]? = some (0, 0, 8, []) := rfl
theorem SH_65 : SH[65]? = some (0, 0, 8, []) := rfl
theorem SH_66 : SH[66]? = some (0, 0, 8, []) := rfl
theorem SH_67 : SH[67]? = some (1, 0, 10, [69, 70, 71, 72, 0, 0, 0, 0, 0, 0]) := rfl
theorem SH_68 : SH[68]? = some (0, 0, 8, []) := rfl
theorem SH_69 : SH[69]? = some (0, 0, 8, []) := rfl
theorem SH_70 : SH[70]? = some (0, 0, 8, []) := rfl
theorem SH_71 : SH[71]? = some (0, 0, 8, []) := rfl
theorem SH_72 : SH[72]? = some (1, 0, 10, [74, 75, 76, 77, 0, 0, 0, 0, 0, 0]) := rfl
theorem SH_73 : SH[73]? = some (0, 0, 8, []) := rfl
theorem SH_74 : SH[74]? = some (0, 0, 8, []) := rfl
theorem SH_75 : SH[75]? = some (0, 0, 8, []) := rfl
theorem SH_76 : SH[76]? = some (0, 0, 8, []) := rfl
theorem SH_77 : SH[77]? = some (1, 0, 10, [79, 80, 81, 82, 0, 0, 0, 0, 0, 0]) := rfl
theorem SH_78 : SH[78]? = some (0, 0, 8, []) := rfl
theorem SH_79 : SH[79]? = some (0, 0, 8, []) := rfl
theorem SH_80 : SH[80]? = some (0, 0, 8, []) := rfl
theorem SH_81 : SH[81]? = some (0, 0, 8, []) := rfl
theorem SH_82 : SH[82]? = some (1, 0, 10, [84, 85, 86, 87, 0, 0, 0, 0, 0, 0]) := rfl
theorem SH_83 : SH[83]? = some (0, 0, 8, []) := rfl
theorem SH_84 : SH[84]? = some (0, 0, 8, []) := rfl
theorem SH_85 : SH[85]? = some (0, 0, 8, []) := rfl
theorem SH_86 : SH[86]? = some (0, 0, 8, []) := rfl
theorem SH_87 : SH[87]? = some (1, 1, 7, [2, 89, 90, 91, 92, 93, 94]) := rfl
theorem SH_88 : SH[88]? = some (0, 0, 72, []) := rfl
theorem SH_89 : SH[89]? = some (0, 0, 96, []) := rfl
theorem SH_90 : SH[90]? = some (0, 0, 96, []) := rfl
theorem SH_91 : SH[91]? = some (0, 0, 12, []) := rfl
theorem SH_92 : SH[92]? = some (0, 0, 12, []) := rfl
theorem SH_93 : SH[93]? = some (0, 0, 12, []) := rfl
theorem SH_94 : SH[94]? = some (1, 2, 4, [2, 96, 97, 0]) := rfl
theorem SH_95 : SH[95]? = some (0, 0, 8, []) := rfl
theorem SH_96 : SH[96]? = some (0, 0, 8, []) := rfl
theorem SH_97 : SH[97]? = some (1, 4, 13, [2, 88, 95, 99, 100, 101, 102, 103, 104, 0, 0, 0, 0]) := rfl
theorem SH_98 : SH[98]? = some (0, 0, 12, []) := rfl
theorem SH_99 : SH[99]? = some (0, 0, 12, []) := rfl
theorem SH_100 : SH[100]? = some (0, 0, 12, []) := rfl
theorem SH_101 : SH[101]? = some (0, 0, 96, []) := rfl
theorem SH_102 : SH[102]? = some (0, 0, 8, []) := rfl
theorem SH_103 : SH[103]? = some (0, 0, 8, []) := rfl
theorem SH_104 : SH[104]? = some (1, 3, 9, [2, 106, 0, 0, 0, 0, 0, 0, 107]) := rfl
theorem SH_105 : SH[105]? = some (0, 0, 8, []) := rfl
theorem SH_106 : SH[106]? = some (0, 0, 12, []) := rfl
theorem SH_107 : SH[107]? = some (1, 5, 14, [2, 109, 0, 0, 0, 0, 0, 0, 98, 110, 111, 112, 113, 0]) := rfl
theorem SH_108 : SH[108]? = some (0, 0, 8, []) := rfl
theorem SH_109 : SH[109]? = some (0, 0, 12, []) := rfl
theorem SH_110 : SH[110]? = some (0, 0, 12, []) := rfl
theorem SH_111 : SH[111]? = some (0, 0, 2, []) := rfl
theorem SH_112 : SH[112]? = some (0, 0, 2, []) := rfl
theorem SH_113 : SH[113]? = some (1, 7, 5, [115, 116, 0, 0, 0]) := rfl
theorem SH_114 : SH[114]? = some (0, 1, 80, []) := rfl
theorem SH_115 : SH[115]? = some (1, 0, 10, [117, 118, 119, 120, 0, 0, 0, 0, 0, 0]) := rfl
theorem SH_116 : SH[116]? = some (0, 0, 8, []) := rfl
theorem SH_117 : SH[117]? = some (0, 0, 8, []) := rfl
theorem SH_118 : SH[118]? = some (0, 0, 8, []) := rfl
theorem SH_119 : SH[119]? = some (0, 0, 8, []) := rfl
theorem SH_120 : SH[120]? = some (0, 0, 12, []) := rfl
theorem SH_121 : SH[121]? = some (0, 0, 4, []) := rfl
theorem SH_122 : SH[122]? = some (0, 0, 8, []) := rfl
theorem SH_123 : SH[123]? = some (1, 9, 66, [0, 0, 0, 125, 126, 127, 128, 129, 130, 131, 132, 133, 134, 135, 0, 136, 137, 0, 138, 139, 0, 0, 0, 140, 141, 142, 143, 144, 145, 146, 147, 148, 149, 150, 151, 152, 153, 154, 0, 0, 0, 0, 155, 0, 0, 0, 156, 157, 158, 159, 0, 0, 0, 0, 0, 160, 161, 162, 163, 164, 165, 166, 167, 168, 169, 170]) := rfl
theorem SH_124 : SH[124]? = some (0, 0, 8, []) := rfl
theorem SH_125 : SH[125]? = some (0, 0, 8, []) := rfl
theorem SH_126 : SH[126]? = some (0, 0, 8, []) := rfl
theorem SH_127 : SH[127]? = some (0, 0, 8, []) := rfl
theorem SH_128 : SH[128]? = some (0, 0, 8, []) := rfl
theorem SH_129 : SH[129]? = some (0, 0, 8, []) := rfl
theorem SH_130 : SH[130]? = some (0, 0, 64, []) := rfl
theorem SH_131 : SH[131]? = some (0, 0, 64, []) := rfl
theorem SH_132 : SH[132]? = some (0, 0, 64, []) := rfl
theorem SH_133 : SH[133]? = some (0, 0, 64, []) := rfl
theorem SH_134 : SH[134]? = some (0, 0, 12, []) := rfl
theorem SH_135 : SH[135]? = some (0, 0, 8, []) := rfl
theorem SH_136 : SH[136]? = some (0, 0, 12, []) := rfl
theorem SH_137 : SH[137]? = some (0, 0, 8, []) := rfl
theorem SH_138 : SH[138]? = some (0, 0, 8, []) := rfl
theorem SH_139 : SH[139]? = some (0, 0, 12, []) := rfl
theorem SH_140 : SH[140]? = some (0, 0, 12, []) := rfl
theorem SH_141 : SH[141]? = some (0, 0, 12, []) := rfl
theorem SH_142 : SH[142]? = some (0, 0, 96, []) := rfl
theorem SH_143 : SH[143]? = some (0, 0, 12, []) := rfl
theorem SH_144 : SH[144]? = some (0, 0, 12, []) := rfl
theorem SH_145 : SH[145]? = some (0, 0, 12, []) := rfl
theorem SH_146 : SH[146]? = some (0, 0, 12, []) := rfl
theorem SH_147 : SH[147]? = some (0, 0, 12, []) := rfl
theorem SH_148 : SH[148]? = some (0, 0, 12, []) := rfl
theorem SH_149 : SH[149]? = some (0, 0, 4, []) := rfl
theorem SH_150 : SH[150]? = some (0, 0, 4, []) := rfl
theorem SH_151 : SH[151]? = some (0, 0, 8, []) := rfl
theorem SH_152 : SH[152]? = some (0, 0, 8, []) := rfl
theorem SH_153 : SH[153]? = some (0, 0, 2, []) := rfl
theorem SH_154 : SH[154]? = some (0, 0, 80, []) := rfl
theorem SH_155 : SH[155]? = some (0, 0, 8, []) := rfl
theorem SH_156 : SH[156]? = some (0, 0, 8, []) := rfl
theorem SH_157 : SH[157]? = some (0, 0, 8, []) := rfl
theorem SH_158 : SH[158]? = some (0, 0, 8, []) := rfl
theorem SH_159 : SH[159]? = some (0, 0, 8, []) := rfl
theorem SH_160 : SH[160]? = some (0, 0, 8, []) := rfl
theorem SH_161 : SH[161]? = some (0, 0, 8, []) := rfl
theorem SH_162 : SH[162]? = some (0, 0, 8, []) := rfl
theorem SH_163 : SH[163]? = some (0, 0, 8, []) := rfl
theorem SH_164 : SH[164]? = some (0, 0, 8, []) := rfl
theorem SH_165 : SH[165]? = some (0, 0, 64, []) := rfl
theorem SH_166 : SH[166]? = some (0, 0, 64, []) := rfl
theorem SH_167 : SH[167]? = some (0, 0, 64, []) := rfl
theorem SH_168 : SH[168]? = some (0, 0, 64, []) := rfl
theorem SH_169 : SH[169]? = some (0, 0, 12, []) := rfl
theorem SH_170 : SH[170]? = some (3, 3, 1, []) := rfl
abbrev WS (cA : Nat → ClassId) (ad : Nat → Nat) (σ : Mm) : va_W := WSg SH cA ad σ
/-- a place where a Block lies, its four rows behind it -/
def isB (k : Nat) : Prop := (∃ b, b < 8 ∧ k = 4 + 5 * b) ∨ (∃ b, b < 8 ∧ k = 47 + 5 * b) ∨ k = 115
theorem isB_0 {k : Nat} (h : isB k) : SH[k]? = some (1, 0, 10, [k + 2, k + 3, k + 4, k + 5, 0, 0, 0, 0, 0, 0]) := by
  have h1 : ∀ b, b < 8 → SH[4 + 5 * b]? = some (1, 0, 10, [4 + 5 * b + 2, 4 + 5 * b + 3, 4 + 5 * b + 4, 4 + 5 * b + 5, 0, 0, 0, 0, 0, 0]) := by decide +kernel
  have h2 : ∀ b, b < 8 → SH[47 + 5 * b]? = some (1, 0, 10, [47 + 5 * b + 2, 47 + 5 * b + 3, 47 + 5 * b + 4, 47 + 5 * b + 5, 0, 0, 0, 0, 0, 0]) := by decide +kernel
  rcases h with ⟨b, hb, rfl⟩ | ⟨b, hb, rfl⟩ | rfl
  · exact h1 b hb
  · exact h2 b hb
  · rfl
theorem isB_r {k : Nat} (h : isB k) : SH[k + 1]? = some (0, 0, 8, []) ∧ SH[k + 2]? = some (0, 0, 8, []) ∧ SH[k + 3]? = some (0, 0, 8, []) ∧ SH[k + 4]? = some (0, 0, 8, []) := by
  have a1 : ∀ b, b < 8 → SH[4 + 5 * b + 1]? = some (0, 0, 8, []) := by decide +kernel
  have c1 : ∀ b, b < 8 → SH[47 + 5 * b + 1]? = some (0, 0, 8, []) := by decide +kernel
  have a2 : ∀ b, b < 8 → SH[4 + 5 * b + 2]? = some (0, 0, 8, []) := by decide +kernel
  have c2 : ∀ b, b < 8 → SH[47 + 5 * b + 2]? = some (0, 0, 8, []) := by decide +kernel
  have a3 : ∀ b, b < 8 → SH[4 + 5 * b + 3]? = some (0, 0, 8, []) := by decide +kernel
  have c3 : ∀ b, b < 8 → SH[47 + 5 * b + 3]? = some (0, 0, 8, []) := by decide +kernel
  have a4 : ∀ b, b < 8 → SH[4 + 5 * b + 4]? = some (0, 0, 8, []) := by decide +kernel
  have c4 : ∀ b, b < 8 → SH[47 + 5 * b + 4]? = some (0, 0, 8, []) := by decide +kernel
  rcases h with ⟨b, hb, rfl⟩ | ⟨b, hb, rfl⟩ | rfl
  · exact ⟨a1 b hb, a2 b hb, a3 b hb, a4 b hb⟩
  · exact ⟨c1 b hb, c2 b hb, c3 b hb, c4 b hb⟩
  · exact ⟨rfl, rfl, rfl, rfl⟩
/-- the strings' places: 1000 + i the String, 1010 + i its bytes -/
def sLEN : List Nat := [3, 3, 5]
def sBYT : List (List Int32) := [[103, 111, 32], [105, 102, 32], [115, 116, 111, 112, 32]]
def sTXT : List (Nat × String) := [(74, "go "), (87, "if "), (92, "stop ")]
/-- the texts of the exceptions -/
def STR : List (Nat × String) := [(78, "a program has 1 to 8 blocks"), (363, "there is no such block"), (101, "there is no such instruction"), (112, "the block is full"), (121, "the block has no instructions"), (127, "there is no such kind of end"), (368, "there is no such variable"), (138, "a frequency is from 1 to 9999"), (158, "an instruction has the parts 0 to 3"), (169, "a block has the properties 0 to 5"), (171, "there is no such point"), (370, "there is no such loop"), (202, "a loop has the properties 0 to 2"), (213, "the variable cannot be recomputed"), (219, "a plan has 1 to 12 registers"), (232, "a home has the properties 0 to 2"), (372, "there is no plan"), (249, "the variable is not promoted in this loop"), (251, "a plan has the numbers 0 to 4"), (374, "a limit is from 1 to 1000"), (336, "the limit is not enough"), (289, "an execution has the counts 0 to 3"), (294, "the input is full"), (320, "no snapshot was saved")]
def stab (ad : Nat → Nat) (U : State) : Prop := (∀ w ∈ NW, va_Nw w U) ∧ (∀ t ∈ STR, ∃ sa, vk_R RX9 t.1 t.2 sa U) ∧ ∀ i, i < 3 → vk_R RX8 (sTXT.getD i (0, "")).1 (sTXT.getD i (0, "")).2 (ad (1000 + i)) U
def xtra (ad : Nat → Nat) (A : Nat → Prop) (U : State) (H : Heap) : Prop := vx_Zq Bundle.tN "UNASSIGNED_STACK" Bundle.steD A U H ∧ vx_Zq Bundle.tN "SUPPRESSED_SENTINEL" Bundle.listD A U H ∧ vk_S 3 sLEN sBYT (fun i => ad (1000 + i)) (fun i => ad (1010 + i)) A U H ∧ va_Z RJ0 "COMPACT_STRINGS" "Z" (.int 1) A U H ∧ va_Zq RJ3 "SIOOBE_FORMATTER" "Ljava/util/function/BiFunction;" A U H
theorem stab.warm {ad : Nat → Nat} {s U : State} (hW : s.WarmedH U.vm) (h : stab ad s) : stab ad U := by
  refine ⟨fun w hw => ?_, fun t ht => ?_, fun i hi => vk_R.warm hW (h.2.2 i hi)⟩
  · have h1 := h.1 w hw
    have h2 := (List.mem_filter.mp hw).2
    cases w <;> first | exact va_Nw.warmM hW h1 | exact va_Nw.warmD hW h1 | exact va_Nw.warmC hW h1 | cases h2
  · obtain ⟨sa, h1⟩ := h.2.1 t ht
    exact ⟨sa, vk_R.warm hW h1⟩
theorem stab.same {ad : Nat → Nat} {s U : State} (hv : U.vm = s.vm) (h : stab ad s) : stab ad U := by
  refine ⟨fun w hw => ?_, fun t ht => ?_, fun i hi => vk_R.same hv (h.2.2 i hi)⟩
  · have h1 := h.1 w hw
    have h2 := (List.mem_filter.mp hw).2
    cases w <;> first | exact va_Nw.same rfl hv.symm h1 | cases h2
  · obtain ⟨sa, h1⟩ := h.2.1 t ht
    exact ⟨sa, vk_R.same hv h1⟩
theorem xtra.go {ad : Nat → Nat} {A : Nat → Prop} {s U : State} {H : Heap} {locs : List Loc} (h : xtra ad A s s.heap) (hS : va_S A s.heap H locs) (hv : s.vm.Alike U.vm) : xtra ad A U H := by
  obtain ⟨h1, h2, h3, h4, h5⟩ := h
  refine ⟨vx_Zq.moved hv (h1.kept hS.2.1), vx_Zq.moved hv (h2.kept hS.2.1), vk_S.moved hv (h3.kept hS.2.1), va_Z.moved hv (h4.kept hS.2.1), va_Zq.moved hv (h5.kept hS.2.1)⟩
theorem xtra.moved {ad : Nat → Nat} {A : Nat → Prop} {s U : State} {H : Heap} (h : xtra ad A s H) (hv : s.vm.Alike U.vm) : xtra ad A U H := by
  obtain ⟨h1, h2, h3, h4, h5⟩ := h
  exact ⟨vx_Zq.moved hv h1, vx_Zq.moved hv h2, vk_S.moved hv h3, va_Z.moved hv h4, va_Zq.moved hv h5⟩
def inv (D : va_G) (cA : Nat → ClassId) (ad : Nat → Nat) (A : Nat → Prop) (U : State) : Prop := va_K D CL (TY cA) U ∧ (∀ i j, i < SH.length → j < SH.length → ad i = ad j → i = j) ∧ (∀ i, i < SH.length → A (ad i)) ∧ stab ad U
def wrld (D : va_G) (cA : Nat → ClassId) (ad : Nat → Nat) (A : Nat → Prop) (σ : Mm) (U : State) : Prop := va_P D CL (WS cA ad σ) U.heap ∧ inv D cA ad A U ∧ xtra ad A U U.heap ∧ ∀ q, U.heap.size ≤ q → A q
theorem wrld.blind {D : va_G} {cA : Nat → ClassId} {ad : Nat → Nat} {A : Nat → Prop} {σ : Mm} (av : List Value) : FrameBlind (va_Pc av (wrld D cA ad A σ)) := by
  intro a U g mk h
  obtain ⟨h0, h1, ⟨h2, h3, h4, h5⟩, h6, h7⟩ := h
  exact ⟨h0, h1, ⟨va_K.moved (u := U) (U := U.calling g mk a) (Vm.Alike.refl U.vm) h2, h3, h4, stab.same (s := U) (U := U.calling g mk a) rfl h5⟩, xtra.moved (s := U) (U := U.calling g mk a) h6 (Vm.Alike.refl U.vm), h7⟩
abbrev sT : Type := Program × Launch × Env × Room × State × MethodId × Array Value × List Frame × Method × Code × va_G × (Nat → ClassId) × (Nat → Nat) × (Nat → Prop) × (State → Prop)
def sad (X : sT) : Nat → Nat := X.2.2.2.2.2.2.2.2.2.2.2.2.1
def sl (X : sT) : Launch := X.2.1
def sR (X : sT) : Room := X.2.2.2.1
def sX (X : sT) (cc : ByteArray) (own : String) (nL fr lo : Nat) : Prop := match X with
  | (p, _, _, R, s, m, args, _, meth, c, D, cA, ad, A, _) => (p.tables.exec = Jvm.exec ∧ c.code = cc ∧ c.maxLocals = nL ∧ s.vm.findClass own = some m.cls ∧ (∀ w ∈ GW, w.before args s = true)) ∧ fr ≤ R.frames ∧ lo ≤ R.locals ∧ inv D cA ad A s ∧ xtra ad A s s.heap ∧ (∀ q, s.heap.size ≤ q → A q) ∧ meth.locks = false
def sW (X : sT) (nL : Nat) (cs : Nat × Nat) (σ : Mm) (pc : Nat) (L : List (Option Value)) (st : List Value) : Prop := match X with
  | (p, l, e, R, s, m, args, below, meth, c, D, cA, ad, A, Q) => ∀ (H : Heap) (locs : List Loc) (ls : Array Slot), va_P D CL (WS cA ad σ) H → va_S A s.heap H locs → loc ls nL L → W p l e R s m args below meth c H locs cs.1 cs.2 Q (F0 m pc ls st)
/-! a method's contract -/
def rmF (fr lo : Nat) : Room := { frames := fr, cells := 0, slots := 0, locals := lo }
def cI (l : Launch) (y : MethodName) (cc : ByteArray) (nL : Nat) (rt : FieldType) (fr lo : Nat) (av : (Nat → Nat) → List Value) (σ : Mm) (r : Int32) (σ' : Mm) : Prop :=
  ∀ (D : va_G) (cA : Nat → ClassId) (ad : Nat → Nat) (A : Nat → Prop), Met l y (.code y cc nL (some rt) :: GW) (rmF fr lo) (va_Pc (av ad) (wrld D cA ad A σ)) (va_Qi (fun x (_ : Unit) => x = r) (fun _ t => wrld D cA ad A σ' t) A) 0 0 A
def cV (l : Launch) (y : MethodName) (cc : ByteArray) (nL : Nat) (fr lo : Nat) (av : (Nat → Nat) → List Value) (σ : Mm) (σ' : Mm) : Prop :=
  ∀ (D : va_G) (cA : Nat → ClassId) (ad : Nat → Nat) (A : Nat → Prop), Met l y (.code y cc nL none :: GW) (rmF fr lo) (va_Pc (av ad) (wrld D cA ad A σ)) (va_Qv (fun (_ : Unit) => True) (fun _ t => wrld D cA ad A σ' t) A) 0 0 A
theorem gw_goodIn {ws : List Cond} (h : ∀ w ∈ ws, w ∈ GW) : GoodIn GW ws := fun w hw => ⟨h w hw, gw_good (h w hw)⟩
theorem gw_cons {c : Cond} (h : c ∈ GW) : GoodIn GW (c :: GW) := gw_goodIn (fun _ hw => (List.mem_cons.mp hw).elim (fun e => e ▸ h) id)
theorem s_iadd {X : sT} {cc : ByteArray} {own : String} {nL fr lo : Nat} {cs : Nat × Nat} {σ : Mm} {pc : Nat} {L : List (Option Value)} {st : List Value} {a b : Int32} (h : sX X cc own nL fr lo) (d : decode cc pc = .ok (.iadd, 1)) (k : sW X nL cs σ (pc + 1) L (.int (a + b) :: st)) : sW X nL cs σ pc L (.int b :: .int a :: st) := by
  obtain ⟨p, l, e, R, s, m, args, below, meth, c, D, cA, ad, A, Q⟩ := X
  obtain ⟨⟨hx, hb, hml, hown, hts⟩, hfr, hlo, hinv, hxt, hnew, hlk⟩ := h
  intro H locs ls hP hS hl
  exact lv_iadd hx hb d (k H locs ls hP hS hl)
theorem s_isub {X : sT} {cc : ByteArray} {own : String} {nL fr lo : Nat} {cs : Nat × Nat} {σ : Mm} {pc : Nat} {L : List (Option Value)} {st : List Value} {a b : Int32} (h : sX X cc own nL fr lo) (d : decode cc pc = .ok (.isub, 1)) (k : sW X nL cs σ (pc + 1) L (.int (a - b) :: st)) : sW X nL cs σ pc L (.int b :: .int a :: st) := by
  obtain ⟨p, l, e, R, s, m, args, below, meth, c, D, cA, ad, A, Q⟩ := X
  obtain ⟨⟨hx, hb, hml, hown, hts⟩, hfr, hlo, hinv, hxt, hnew, hlk⟩ := h
  intro H locs ls hP hS hl
  exact lv_isub hx hb d (k H locs ls hP hS hl)
theorem s_imul {X : sT} {cc : ByteArray} {own : String} {nL fr lo : Nat} {cs : Nat × Nat} {σ : Mm} {pc : Nat} {L : List (Option Value)} {st : List Value} {a b : Int32} (h : sX X cc own nL fr lo) (d : decode cc pc = .ok (.imul, 1)) (k : sW X nL cs σ (pc + 1) L (.int (a * b) :: st)) : sW X nL cs σ pc L (.int b :: .int a :: st) := by
  obtain ⟨p, l, e, R, s, m, args, below, meth, c, D, cA, ad, A, Q⟩ := X
  obtain ⟨⟨hx, hb, hml, hown, hts⟩, hfr, hlo, hinv, hxt, hnew, hlk⟩ := h
  intro H locs ls hP hS hl
  exact lv_imul hx hb d (k H locs ls hP hS hl)
theorem s_iand {X : sT} {cc : ByteArray} {own : String} {nL fr lo : Nat} {cs : Nat × Nat} {σ : Mm} {pc : Nat} {L : List (Option Value)} {st : List Value} {a b : Int32} (h : sX X cc own nL fr lo) (d : decode cc pc = .ok (.iand, 1)) (k : sW X nL cs σ (pc + 1) L (.int (a &&& b) :: st)) : sW X nL cs σ pc L (.int b :: .int a :: st) := by
  obtain ⟨p, l, e, R, s, m, args, below, meth, c, D, cA, ad, A, Q⟩ := X
  obtain ⟨⟨hx, hb, hml, hown, hts⟩, hfr, hlo, hinv, hxt, hnew, hlk⟩ := h
  intro H locs ls hP hS hl
  exact lv_iand hx hb d (k H locs ls hP hS hl)
theorem s_ior {X : sT} {cc : ByteArray} {own : String} {nL fr lo : Nat} {cs : Nat × Nat} {σ : Mm} {pc : Nat} {L : List (Option Value)} {st : List Value} {a b : Int32} (h : sX X cc own nL fr lo) (d : decode cc pc = .ok (.ior, 1)) (k : sW X nL cs σ (pc + 1) L (.int (a ||| b) :: st)) : sW X nL cs σ pc L (.int b :: .int a :: st) := by
  obtain ⟨p, l, e, R, s, m, args, below, meth, c, D, cA, ad, A, Q⟩ := X
  obtain ⟨⟨hx, hb, hml, hown, hts⟩, hfr, hlo, hinv, hxt, hnew, hlk⟩ := h
  intro H locs ls hP hS hl
  exact lv_ior hx hb d (k H locs ls hP hS hl)
theorem s_ixor {X : sT} {cc : ByteArray} {own : String} {nL fr lo : Nat} {cs : Nat × Nat} {σ : Mm} {pc : Nat} {L : List (Option Value)} {st : List Value} {a b : Int32} (h : sX X cc own nL fr lo) (d : decode cc pc = .ok (.ixor, 1)) (k : sW X nL cs σ (pc + 1) L (.int (a ^^^ b) :: st)) : sW X nL cs σ pc L (.int b :: .int a :: st) := by
  obtain ⟨p, l, e, R, s, m, args, below, meth, c, D, cA, ad, A, Q⟩ := X
  obtain ⟨⟨hx, hb, hml, hown, hts⟩, hfr, hlo, hinv, hxt, hnew, hlk⟩ := h
  intro H locs ls hP hS hl
  exact lv_ixor hx hb d (k H locs ls hP hS hl)
theorem s_ishl {X : sT} {cc : ByteArray} {own : String} {nL fr lo : Nat} {cs : Nat × Nat} {σ : Mm} {pc : Nat} {L : List (Option Value)} {st : List Value} {a b : Int32} (h : sX X cc own nL fr lo) (d : decode cc pc = .ok (.ishl, 1)) (k : sW X nL cs σ (pc + 1) L (.int (a <<< (b &&& 31)) :: st)) : sW X nL cs σ pc L (.int b :: .int a :: st) := by
  obtain ⟨p, l, e, R, s, m, args, below, meth, c, D, cA, ad, A, Q⟩ := X
  obtain ⟨⟨hx, hb, hml, hown, hts⟩, hfr, hlo, hinv, hxt, hnew, hlk⟩ := h
  intro H locs ls hP hS hl
  exact lv_ishl hx hb d (k H locs ls hP hS hl)
theorem s_ishr {X : sT} {cc : ByteArray} {own : String} {nL fr lo : Nat} {cs : Nat × Nat} {σ : Mm} {pc : Nat} {L : List (Option Value)} {st : List Value} {a b : Int32} (h : sX X cc own nL fr lo) (d : decode cc pc = .ok (.ishr, 1)) (k : sW X nL cs σ (pc + 1) L (.int (a >>> (b &&& 31)) :: st)) : sW X nL cs σ pc L (.int b :: .int a :: st) := by
  obtain ⟨p, l, e, R, s, m, args, below, meth, c, D, cA, ad, A, Q⟩ := X
  obtain ⟨⟨hx, hb, hml, hown, hts⟩, hfr, hlo, hinv, hxt, hnew, hlk⟩ := h
  intro H locs ls hP hS hl
  exact lv_ishr hx hb d (k H locs ls hP hS hl)
def usr (a b : Int32) : Int32 := (a.toUInt32 >>> (b.toUInt32 &&& Int32.toUInt32 31)).toInt32
theorem s_iushr {X : sT} {cc : ByteArray} {own : String} {nL fr lo : Nat} {cs : Nat × Nat} {σ : Mm} {pc : Nat} {L : List (Option Value)} {st : List Value} {a b : Int32} (h : sX X cc own nL fr lo) (d : decode cc pc = .ok (.iushr, 1)) (k : sW X nL cs σ (pc + 1) L (.int (usr a b) :: st)) : sW X nL cs σ pc L (.int b :: .int a :: st) := by
  obtain ⟨p, l, e, R, s, m, args, below, meth, c, D, cA, ad, A, Q⟩ := X
  obtain ⟨⟨hx, hb, hml, hown, hts⟩, hfr, hlo, hinv, hxt, hnew, hlk⟩ := h
  intro H locs ls hP hS hl
  exact lv_iushr hx hb d rfl (k H locs ls hP hS hl)
theorem s_ineg {X : sT} {cc : ByteArray} {own : String} {nL fr lo : Nat} {cs : Nat × Nat} {σ : Mm} {pc : Nat} {L : List (Option Value)} {st : List Value} {a : Int32} (h : sX X cc own nL fr lo) (d : decode cc pc = .ok (.ineg, 1)) (k : sW X nL cs σ (pc + 1) L (.int (-a) :: st)) : sW X nL cs σ pc L (.int a :: st) := by
  obtain ⟨p, l, e, R, s, m, args, below, meth, c, D, cA, ad, A, Q⟩ := X
  obtain ⟨⟨hx, hb, hml, hown, hts⟩, hfr, hlo, hinv, hxt, hnew, hlk⟩ := h
  intro H locs ls hP hS hl
  exact lv_ineg hx hb d (k H locs ls hP hS hl)
def i2c (a : Int32) : Int32 := (a.toUInt32 % 65536).toInt32
theorem s_i2c {X : sT} {cc : ByteArray} {own : String} {nL fr lo : Nat} {cs : Nat × Nat} {σ : Mm} {pc : Nat} {L : List (Option Value)} {st : List Value} {a : Int32} (h : sX X cc own nL fr lo) (d : decode cc pc = .ok (.i2c, 1)) (k : sW X nL cs σ (pc + 1) L (.int (i2c a) :: st)) : sW X nL cs σ pc L (.int a :: st) := by
  obtain ⟨p, l, e, R, s, m, args, below, meth, c, D, cA, ad, A, Q⟩ := X
  obtain ⟨⟨hx, hb, hml, hown, hts⟩, hfr, hlo, hinv, hxt, hnew, hlk⟩ := h
  intro H locs ls hP hS hl
  exact lv_i2c hx hb d rfl (k H locs ls hP hS hl)
theorem s_i2l {X : sT} {cc : ByteArray} {own : String} {nL fr lo : Nat} {cs : Nat × Nat} {σ : Mm} {pc : Nat} {L : List (Option Value)} {st : List Value} {a : Int32} (h : sX X cc own nL fr lo) (d : decode cc pc = .ok (.i2l, 1)) (k : sW X nL cs σ (pc + 1) L (.long a.toInt64 :: st)) : sW X nL cs σ pc L (.int a :: st) := by
  obtain ⟨p, l, e, R, s, m, args, below, meth, c, D, cA, ad, A, Q⟩ := X
  obtain ⟨⟨hx, hb, hml, hown, hts⟩, hfr, hlo, hinv, hxt, hnew, hlk⟩ := h
  intro H locs ls hP hS hl
  exact lv_i2l hx hb d rfl (k H locs ls hP hS hl)
theorem s_iconst {X : sT} {cc : ByteArray} {own : String} {nL fr lo : Nat} {cs : Nat × Nat} {σ : Mm} {pc : Nat} {L : List (Option Value)} {st : List Value} {n : Int} (v : Int32) (h : sX X cc own nL fr lo) (d : decode cc pc = .ok (.iconst n, 1)) (hv : Int32.ofInt n = v) (k : sW X nL cs σ (pc + 1) L (.int v :: st)) : sW X nL cs σ pc L (st) := by
  obtain ⟨p, l, e, R, s, m, args, below, meth, c, D, cA, ad, A, Q⟩ := X
  obtain ⟨⟨hx, hb, hml, hown, hts⟩, hfr, hlo, hinv, hxt, hnew, hlk⟩ := h
  intro H locs ls hP hS hl
  exact lv_iconst hx hb d hv (k H locs ls hP hS hl)
theorem s_bipush {X : sT} {cc : ByteArray} {own : String} {nL fr lo : Nat} {cs : Nat × Nat} {σ : Mm} {pc : Nat} {L : List (Option Value)} {st : List Value} {n : Int} (v : Int32) (h : sX X cc own nL fr lo) (d : decode cc pc = .ok (.bipush n, 2)) (hv : (Int8.ofInt n).toInt32 = v) (k : sW X nL cs σ (pc + 2) L (.int v :: st)) : sW X nL cs σ pc L (st) := by
  obtain ⟨p, l, e, R, s, m, args, below, meth, c, D, cA, ad, A, Q⟩ := X
  obtain ⟨⟨hx, hb, hml, hown, hts⟩, hfr, hlo, hinv, hxt, hnew, hlk⟩ := h
  intro H locs ls hP hS hl
  exact lv_bipush hx hb d hv (k H locs ls hP hS hl)
theorem s_sipush {X : sT} {cc : ByteArray} {own : String} {nL fr lo : Nat} {cs : Nat × Nat} {σ : Mm} {pc : Nat} {L : List (Option Value)} {st : List Value} {n : Int} (v : Int32) (h : sX X cc own nL fr lo) (d : decode cc pc = .ok (.sipush n, 3)) (hv : (Int16.ofInt n).toInt32 = v) (k : sW X nL cs σ (pc + 3) L (.int v :: st)) : sW X nL cs σ pc L (st) := by
  obtain ⟨p, l, e, R, s, m, args, below, meth, c, D, cA, ad, A, Q⟩ := X
  obtain ⟨⟨hx, hb, hml, hown, hts⟩, hfr, hlo, hinv, hxt, hnew, hlk⟩ := h
  intro H locs ls hP hS hl
  exact lv_sipush hx hb d hv (k H locs ls hP hS hl)
theorem s_ldc {X : sT} {cc : ByteArray} {own : String} {nL fr lo : Nat} {cs : Nat × Nat} {σ : Mm} {pc : Nat} {L : List (Option Value)} {st : List Value} {index : Nat} {v : Int32} (h : sX X cc own nL fr lo) (hw : Cond.constant own index v ∈ GW) (d : decode cc pc = .ok (.ldc index, 2)) (k : sW X nL cs σ (pc + 2) L (.int v :: st)) : sW X nL cs σ pc L (st) := by
  obtain ⟨p, l, e, R, s, m, args, below, meth, c, D, cA, ad, A, Q⟩ := X
  obtain ⟨⟨hx, hb, hml, hown, hts⟩, hfr, hlo, hinv, hxt, hnew, hlk⟩ := h
  intro H locs ls hP hS hl
  exact lv_ldc hx hb hown (hts _ hw) d (k H locs ls hP hS hl)
theorem s_iload_n {X : sT} {cc : ByteArray} {own : String} {nL fr lo : Nat} {cs : Nat × Nat} {σ : Mm} {pc : Nat} {L : List (Option Value)} {st : List Value} {j : Fin 4} {v : Int32} (h : sX X cc own nL fr lo) (d : decode cc pc = .ok (.iload_n j, 1)) (hi : lgt L j = some (.int v)) (k : sW X nL cs σ (pc + 1) L (.int v :: st)) : sW X nL cs σ pc L (st) := by
  obtain ⟨p, l, e, R, s, m, args, below, meth, c, D, cA, ad, A, Q⟩ := X
  obtain ⟨⟨hx, hb, hml, hown, hts⟩, hfr, hlo, hinv, hxt, hnew, hlk⟩ := h
  intro H locs ls hP hS hl
  exact lv_iload_n hx hb d rfl (hl.at hi) (k H locs ls hP hS hl)
theorem s_iload {X : sT} {cc : ByteArray} {own : String} {nL fr lo : Nat} {cs : Nat × Nat} {σ : Mm} {pc : Nat} {L : List (Option Value)} {st : List Value} {j : Nat} {v : Int32} (h : sX X cc own nL fr lo) (d : decode cc pc = .ok (.iload j, 2)) (hi : lgt L j = some (.int v)) (k : sW X nL cs σ (pc + 2) L (.int v :: st)) : sW X nL cs σ pc L (st) := by
  obtain ⟨p, l, e, R, s, m, args, below, meth, c, D, cA, ad, A, Q⟩ := X
  obtain ⟨⟨hx, hb, hml, hown, hts⟩, hfr, hlo, hinv, hxt, hnew, hlk⟩ := h
  intro H locs ls hP hS hl
  exact lv_iload hx hb d (hl.at hi) (k H locs ls hP hS hl)
theorem s_aload_n {X : sT} {cc : ByteArray} {own : String} {nL fr lo : Nat} {cs : Nat × Nat} {σ : Mm} {pc : Nat} {L : List (Option Value)} {st : List Value} {j : Fin 4} {v : Nat} (h : sX X cc own nL fr lo) (d : decode cc pc = .ok (.aload_n j, 1)) (hi : lgt L j = some (.ref v)) (k : sW X nL cs σ (pc + 1) L (.ref v :: st)) : sW X nL cs σ pc L (st) := by
  obtain ⟨p, l, e, R, s, m, args, below, meth, c, D, cA, ad, A, Q⟩ := X
  obtain ⟨⟨hx, hb, hml, hown, hts⟩, hfr, hlo, hinv, hxt, hnew, hlk⟩ := h
  intro H locs ls hP hS hl
  exact lv_aload_n hx hb d rfl (hl.at hi) (k H locs ls hP hS hl)
theorem s_aload {X : sT} {cc : ByteArray} {own : String} {nL fr lo : Nat} {cs : Nat × Nat} {σ : Mm} {pc : Nat} {L : List (Option Value)} {st : List Value} {j : Nat} {v : Nat} (h : sX X cc own nL fr lo) (d : decode cc pc = .ok (.aload j, 2)) (hi : lgt L j = some (.ref v)) (k : sW X nL cs σ (pc + 2) L (.ref v :: st)) : sW X nL cs σ pc L (st) := by
  obtain ⟨p, l, e, R, s, m, args, below, meth, c, D, cA, ad, A, Q⟩ := X
  obtain ⟨⟨hx, hb, hml, hown, hts⟩, hfr, hlo, hinv, hxt, hnew, hlk⟩ := h
  intro H locs ls hP hS hl
  exact lv_aload hx hb d (hl.at hi) (k H locs ls hP hS hl)
theorem s_istore_n {X : sT} {cc : ByteArray} {own : String} {nL fr lo : Nat} {cs : Nat × Nat} {σ : Mm} {pc : Nat} {L : List (Option Value)} {st : List Value} {j : Fin 4} {v : Int32} (h : sX X cc own nL fr lo) (d : decode cc pc = .ok (.istore_n j, 1)) (hj : (j : Nat) < nL) (k : sW X nL cs σ (pc + 1) (lst L j (.int v)) st) : sW X nL cs σ pc L (.int v :: st) := by
  obtain ⟨p, l, e, R, s, m, args, below, meth, c, D, cA, ad, A, Q⟩ := X
  obtain ⟨⟨hx, hb, hml, hown, hts⟩, hfr, hlo, hinv, hxt, hnew, hlk⟩ := h
  intro H locs ls hP hS hl
  exact lv_istore_n hx hb d rfl hl.1 hj rfl (fun ls' h' => k H locs ls' hP hS (loc.st rfl hl.2 h'))
theorem s_istore {X : sT} {cc : ByteArray} {own : String} {nL fr lo : Nat} {cs : Nat × Nat} {σ : Mm} {pc : Nat} {L : List (Option Value)} {st : List Value} {j : Nat} {v : Int32} (h : sX X cc own nL fr lo) (d : decode cc pc = .ok (.istore j, 2)) (hj : (j : Nat) < nL) (k : sW X nL cs σ (pc + 2) (lst L j (.int v)) st) : sW X nL cs σ pc L (.int v :: st) := by
  obtain ⟨p, l, e, R, s, m, args, below, meth, c, D, cA, ad, A, Q⟩ := X
  obtain ⟨⟨hx, hb, hml, hown, hts⟩, hfr, hlo, hinv, hxt, hnew, hlk⟩ := h
  intro H locs ls hP hS hl
  exact lv_istore hx hb d hl.1 hj rfl (fun ls' h' => k H locs ls' hP hS (loc.st rfl hl.2 h'))
theorem s_astore_n {X : sT} {cc : ByteArray} {own : String} {nL fr lo : Nat} {cs : Nat × Nat} {σ : Mm} {pc : Nat} {L : List (Option Value)} {st : List Value} {j : Fin 4} {v : Nat} (h : sX X cc own nL fr lo) (d : decode cc pc = .ok (.astore_n j, 1)) (hj : (j : Nat) < nL) (k : sW X nL cs σ (pc + 1) (lst L j (.ref v)) st) : sW X nL cs σ pc L (.ref v :: st) := by
  obtain ⟨p, l, e, R, s, m, args, below, meth, c, D, cA, ad, A, Q⟩ := X
  obtain ⟨⟨hx, hb, hml, hown, hts⟩, hfr, hlo, hinv, hxt, hnew, hlk⟩ := h
  intro H locs ls hP hS hl
  exact lv_astore_n hx hb d rfl hl.1 hj rfl (fun ls' h' => k H locs ls' hP hS (loc.st rfl hl.2 h'))
theorem s_astore {X : sT} {cc : ByteArray} {own : String} {nL fr lo : Nat} {cs : Nat × Nat} {σ : Mm} {pc : Nat} {L : List (Option Value)} {st : List Value} {j : Nat} {v : Nat} (h : sX X cc own nL fr lo) (d : decode cc pc = .ok (.astore j, 2)) (hj : (j : Nat) < nL) (k : sW X nL cs σ (pc + 2) (lst L j (.ref v)) st) : sW X nL cs σ pc L (.ref v :: st) := by
  obtain ⟨p, l, e, R, s, m, args, below, meth, c, D, cA, ad, A, Q⟩ := X
  obtain ⟨⟨hx, hb, hml, hown, hts⟩, hfr, hlo, hinv, hxt, hnew, hlk⟩ := h
  intro H locs ls hP hS hl
  exact lv_astore hx hb d hl.1 hj rfl (fun ls' h' => k H locs ls' hP hS (loc.st rfl hl.2 h'))
theorem s_iinc {X : sT} {cc : ByteArray} {own : String} {nL fr lo : Nat} {cs : Nat × Nat} {σ : Mm} {pc : Nat} {L : List (Option Value)} {st : List Value} {j : Nat} {n : Int} {v : Int32} (w : Int32) (h : sX X cc own nL fr lo) (d : decode cc pc = .ok (.iinc j n, 3)) (hi : lgt L j = some (.int v)) (hw : v + Int32.ofInt n = w) (hj : j < nL) (k : sW X nL cs σ (pc + 3) (lst L j (.int w)) st) : sW X nL cs σ pc L st := by
  obtain ⟨p, l, e, R, s, m, args, below, meth, c, D, cA, ad, A, Q⟩ := X
  obtain ⟨⟨hx, hb, hml, hown, hts⟩, hfr, hlo, hinv, hxt, hnew, hlk⟩ := h
  intro H locs ls hP hS hl
  obtain ⟨q, hq⟩ := List.getElem?_of_mem (lps_mem.mpr ⟨Nat.zero_le j, (by rw [Nat.sub_zero]; exact hi)⟩)
  exact lv_iinc hx hb d hl.1 hq hw hj rfl (fun ls' h' => k H locs ls' hP hS (loc.st rfl hl.2 h'))
theorem s_dup {X : sT} {cc : ByteArray} {own : String} {nL fr lo : Nat} {cs : Nat × Nat} {σ : Mm} {pc : Nat} {L : List (Option Value)} {st : List Value} {v : Value} (h : sX X cc own nL fr lo) (d : decode cc pc = .ok (.dup, 1)) (hc : v.category = 1) (k : sW X nL cs σ (pc + 1) L (v :: v :: st)) : sW X nL cs σ pc L (v :: st) := by
  obtain ⟨p, l, e, R, s, m, args, below, meth, c, D, cA, ad, A, Q⟩ := X
  obtain ⟨⟨hx, hb, hml, hown, hts⟩, hfr, hlo, hinv, hxt, hnew, hlk⟩ := h
  intro H locs ls hP hS hl
  exact lv_dup hx hb d hc (k H locs ls hP hS hl)
theorem s_dup2 {X : sT} {cc : ByteArray} {own : String} {nL fr lo : Nat} {cs : Nat × Nat} {σ : Mm} {pc : Nat} {L : List (Option Value)} {st : List Value} {v w : Value} (h : sX X cc own nL fr lo) (d : decode cc pc = .ok (.dup2, 1)) (hc : v.category = 1) (hc2 : w.category = 1) (k : sW X nL cs σ (pc + 1) L (v :: w :: v :: w :: st)) : sW X nL cs σ pc L (v :: w :: st) := by
  obtain ⟨p, l, e, R, s, m, args, below, meth, c, D, cA, ad, A, Q⟩ := X
  obtain ⟨⟨hx, hb, hml, hown, hts⟩, hfr, hlo, hinv, hxt, hnew, hlk⟩ := h
  intro H locs ls hP hS hl
  exact lv_dup2_11 hx hb d hc hc2 (k H locs ls hP hS hl)
theorem s_pop {X : sT} {cc : ByteArray} {own : String} {nL fr lo : Nat} {cs : Nat × Nat} {σ : Mm} {pc : Nat} {L : List (Option Value)} {st : List Value} {v : Value} (h : sX X cc own nL fr lo) (d : decode cc pc = .ok (.pop, 1)) (hc : v.category = 1) (k : sW X nL cs σ (pc + 1) L (st)) : sW X nL cs σ pc L (v :: st) := by
  obtain ⟨p, l, e, R, s, m, args, below, meth, c, D, cA, ad, A, Q⟩ := X
  obtain ⟨⟨hx, hb, hml, hown, hts⟩, hfr, hlo, hinv, hxt, hnew, hlk⟩ := h
  intro H locs ls hP hS hl
  exact lv_pop hx hb d hc (k H locs ls hP hS hl)
theorem s_ic_eq {X : sT} {cc : ByteArray} {own : String} {nL fr lo : Nat} {cs : Nat × Nat} {σ : Mm} {pc : Nat} {L : List (Option Value)} {st : List Value} {x y : Int32} {off : Int} {tgt : Nat} (h : sX X cc own nL fr lo) (d : decode cc pc = .ok (.if_icmp .eq off, 3)) (ht : (pc : Int) + off = (tgt : Int)) (kt : x = y → sW X nL cs σ tgt L st) (kf : ¬ (x = y) → sW X nL cs σ (pc + 3) L st) : sW X nL cs σ pc L (.int y :: .int x :: st) := by
  obtain ⟨p, l, e, R, s, m, args, below, meth, c, D, cA, ad, A, Q⟩ := X
  obtain ⟨⟨hx, hb, hml, hown, hts⟩, hfr, hlo, hinv, hxt, hnew, hlk⟩ := h
  intro H locs ls hP hS hl
  exact lv_icmp_eq hx hb d ht (fun q => kt q H locs ls hP hS hl) (fun q => kf q H locs ls hP hS hl)
theorem s_if_eq {X : sT} {cc : ByteArray} {own : String} {nL fr lo : Nat} {cs : Nat × Nat} {σ : Mm} {pc : Nat} {L : List (Option Value)} {st : List Value} {x : Int32} {off : Int} {tgt : Nat} (h : sX X cc own nL fr lo) (d : decode cc pc = .ok (.ifCond .eq off, 3)) (ht : (pc : Int) + off = (tgt : Int)) (kt : x = 0 → sW X nL cs σ tgt L st) (kf : ¬ (x = 0) → sW X nL cs σ (pc + 3) L st) : sW X nL cs σ pc L (.int x :: st) := by
  obtain ⟨p, l, e, R, s, m, args, below, meth, c, D, cA, ad, A, Q⟩ := X
  obtain ⟨⟨hx, hb, hml, hown, hts⟩, hfr, hlo, hinv, hxt, hnew, hlk⟩ := h
  intro H locs ls hP hS hl
  exact lv_if_eq hx hb d ht (fun q => kt q H locs ls hP hS hl) (fun q => kf q H locs ls hP hS hl)
theorem s_ic_ne {X : sT} {cc : ByteArray} {own : String} {nL fr lo : Nat} {cs : Nat × Nat} {σ : Mm} {pc : Nat} {L : List (Option Value)} {st : List Value} {x y : Int32} {off : Int} {tgt : Nat} (h : sX X cc own nL fr lo) (d : decode cc pc = .ok (.if_icmp .ne off, 3)) (ht : (pc : Int) + off = (tgt : Int)) (kt : ¬ x = y → sW X nL cs σ tgt L st) (kf : x = y → sW X nL cs σ (pc + 3) L st) : sW X nL cs σ pc L (.int y :: .int x :: st) := by
  obtain ⟨p, l, e, R, s, m, args, below, meth, c, D, cA, ad, A, Q⟩ := X
  obtain ⟨⟨hx, hb, hml, hown, hts⟩, hfr, hlo, hinv, hxt, hnew, hlk⟩ := h
  intro H locs ls hP hS hl
  exact lv_icmp_ne hx hb d ht (fun q => kt q H locs ls hP hS hl) (fun q => kf q H locs ls hP hS hl)
theorem s_if_ne {X : sT} {cc : ByteArray} {own : String} {nL fr lo : Nat} {cs : Nat × Nat} {σ : Mm} {pc : Nat} {L : List (Option Value)} {st : List Value} {x : Int32} {off : Int} {tgt : Nat} (h : sX X cc own nL fr lo) (d : decode cc pc = .ok (.ifCond .ne off, 3)) (ht : (pc : Int) + off = (tgt : Int)) (kt : ¬ x = 0 → sW X nL cs σ tgt L st) (kf : x = 0 → sW X nL cs σ (pc + 3) L st) : sW X nL cs σ pc L (.int x :: st) := by
  obtain ⟨p, l, e, R, s, m, args, below, meth, c, D, cA, ad, A, Q⟩ := X
  obtain ⟨⟨hx, hb, hml, hown, hts⟩, hfr, hlo, hinv, hxt, hnew, hlk⟩ := h
  intro H locs ls hP hS hl
  exact lv_if_ne hx hb d ht (fun q => kt q H locs ls hP hS hl) (fun q => kf q H locs ls hP hS hl)
theorem s_ic_lt {X : sT} {cc : ByteArray} {own : String} {nL fr lo : Nat} {cs : Nat × Nat} {σ : Mm} {pc : Nat} {L : List (Option Value)} {st : List Value} {x y : Int32} {off : Int} {tgt : Nat} (h : sX X cc own nL fr lo) (d : decode cc pc = .ok (.if_icmp .lt off, 3)) (ht : (pc : Int) + off = (tgt : Int)) (kt : x < y → sW X nL cs σ tgt L st) (kf : ¬ (x < y) → sW X nL cs σ (pc + 3) L st) : sW X nL cs σ pc L (.int y :: .int x :: st) := by
  obtain ⟨p, l, e, R, s, m, args, below, meth, c, D, cA, ad, A, Q⟩ := X
  obtain ⟨⟨hx, hb, hml, hown, hts⟩, hfr, hlo, hinv, hxt, hnew, hlk⟩ := h
  intro H locs ls hP hS hl
  exact lv_icmp_lt hx hb d ht (fun q => kt q H locs ls hP hS hl) (fun q => kf q H locs ls hP hS hl)
theorem s_if_lt {X : sT} {cc : ByteArray} {own : String} {nL fr lo : Nat} {cs : Nat × Nat} {σ : Mm} {pc : Nat} {L : List (Option Value)} {st : List Value} {x : Int32} {off : Int} {tgt : Nat} (h : sX X cc own nL fr lo) (d : decode cc pc = .ok (.ifCond .lt off, 3)) (ht : (pc : Int) + off = (tgt : Int)) (kt : x < 0 → sW X nL cs σ tgt L st) (kf : ¬ (x < 0) → sW X nL cs σ (pc + 3) L st) : sW X nL cs σ pc L (.int x :: st) := by
  obtain ⟨p, l, e, R, s, m, args, below, meth, c, D, cA, ad, A, Q⟩ := X
  obtain ⟨⟨hx, hb, hml, hown, hts⟩, hfr, hlo, hinv, hxt, hnew, hlk⟩ := h
  intro H locs ls hP hS hl
  exact lv_if_lt hx hb d ht (fun q => kt q H locs ls hP hS hl) (fun q => kf q H locs ls hP hS hl)
theorem s_ic_ge {X : sT} {cc : ByteArray} {own : String} {nL fr lo : Nat} {cs : Nat × Nat} {σ : Mm} {pc : Nat} {L : List (Option Value)} {st : List Value} {x y : Int32} {off : Int} {tgt : Nat} (h : sX X cc own nL fr lo) (d : decode cc pc = .ok (.if_icmp .ge off, 3)) (ht : (pc : Int) + off = (tgt : Int)) (kt : y ≤ x → sW X nL cs σ tgt L st) (kf : ¬ (y ≤ x) → sW X nL cs σ (pc + 3) L st) : sW X nL cs σ pc L (.int y :: .int x :: st) := by
  obtain ⟨p, l, e, R, s, m, args, below, meth, c, D, cA, ad, A, Q⟩ := X
  obtain ⟨⟨hx, hb, hml, hown, hts⟩, hfr, hlo, hinv, hxt, hnew, hlk⟩ := h
  intro H locs ls hP hS hl
  exact lv_icmp_ge hx hb d ht (fun q => kt q H locs ls hP hS hl) (fun q => kf q H locs ls hP hS hl)
theorem s_if_ge {X : sT} {cc : ByteArray} {own : String} {nL fr lo : Nat} {cs : Nat × Nat} {σ : Mm} {pc : Nat} {L : List (Option Value)} {st : List Value} {x : Int32} {off : Int} {tgt : Nat} (h : sX X cc own nL fr lo) (d : decode cc pc = .ok (.ifCond .ge off, 3)) (ht : (pc : Int) + off = (tgt : Int)) (kt : 0 ≤ x → sW X nL cs σ tgt L st) (kf : ¬ (0 ≤ x) → sW X nL cs σ (pc + 3) L st) : sW X nL cs σ pc L (.int x :: st) := by
  obtain ⟨p, l, e, R, s, m, args, below, meth, c, D, cA, ad, A, Q⟩ := X
  obtain ⟨⟨hx, hb, hml, hown, hts⟩, hfr, hlo, hinv, hxt, hnew, hlk⟩ := h
  intro H locs ls hP hS hl
  exact lv_if_ge hx hb d ht (fun q => kt q H locs ls hP hS hl) (fun q => kf q H locs ls hP hS hl)
theorem s_ic_gt {X : sT} {cc : ByteArray} {own : String} {nL fr lo : Nat} {cs : Nat × Nat} {σ : Mm} {pc : Nat} {L : List (Option Value)} {st : List Value} {x y : Int32} {off : Int} {tgt : Nat} (h : sX X cc own nL fr lo) (d : decode cc pc = .ok (.if_icmp .gt off, 3)) (ht : (pc : Int) + off = (tgt : Int)) (kt : y < x → sW X nL cs σ tgt L st) (kf : ¬ (y < x) → sW X nL cs σ (pc + 3) L st) : sW X nL cs σ pc L (.int y :: .int x :: st) := by
  obtain ⟨p, l, e, R, s, m, args, below, meth, c, D, cA, ad, A, Q⟩ := X
  obtain ⟨⟨hx, hb, hml, hown, hts⟩, hfr, hlo, hinv, hxt, hnew, hlk⟩ := h
  intro H locs ls hP hS hl
  exact lv_icmp_gt hx hb d ht (fun q => kt q H locs ls hP hS hl) (fun q => kf q H locs ls hP hS hl)
theorem s_if_gt {X : sT} {cc : ByteArray} {own : String} {nL fr lo : Nat} {cs : Nat × Nat} {σ : Mm} {pc : Nat} {L : List (Option Value)} {st : List Value} {x : Int32} {off : Int} {tgt : Nat} (h : sX X cc own nL fr lo) (d : decode cc pc = .ok (.ifCond .gt off, 3)) (ht : (pc : Int) + off = (tgt : Int)) (kt : 0 < x → sW X nL cs σ tgt L st) (kf : ¬ (0 < x) → sW X nL cs σ (pc + 3) L st) : sW X nL cs σ pc L (.int x :: st) := by
  obtain ⟨p, l, e, R, s, m, args, below, meth, c, D, cA, ad, A, Q⟩ := X
  obtain ⟨⟨hx, hb, hml, hown, hts⟩, hfr, hlo, hinv, hxt, hnew, hlk⟩ := h
  intro H locs ls hP hS hl
  exact lv_if_gt hx hb d ht (fun q => kt q H locs ls hP hS hl) (fun q => kf q H locs ls hP hS hl)
theorem s_ic_le {X : sT} {cc : ByteArray} {own : String} {nL fr lo : Nat} {cs : Nat × Nat} {σ : Mm} {pc : Nat} {L : List (Option Value)} {st : List Value} {x y : Int32} {off : Int} {tgt : Nat} (h : sX X cc own nL fr lo) (d : decode cc pc = .ok (.if_icmp .le off, 3)) (ht : (pc : Int) + off = (tgt : Int)) (kt : x ≤ y → sW X nL cs σ tgt L st) (kf : ¬ (x ≤ y) → sW X nL cs σ (pc + 3) L st) : sW X nL cs σ pc L (.int y :: .int x :: st) := by
  obtain ⟨p, l, e, R, s, m, args, below, meth, c, D, cA, ad, A, Q⟩ := X
  obtain ⟨⟨hx, hb, hml, hown, hts⟩, hfr, hlo, hinv, hxt, hnew, hlk⟩ := h
  intro H locs ls hP hS hl
  exact lv_icmp_le hx hb d ht (fun q => kt q H locs ls hP hS hl) (fun q => kf q H locs ls hP hS hl)
theorem s_if_le {X : sT} {cc : ByteArray} {own : String} {nL fr lo : Nat} {cs : Nat × Nat} {σ : Mm} {pc : Nat} {L : List (Option Value)} {st : List Value} {x : Int32} {off : Int} {tgt : Nat} (h : sX X cc own nL fr lo) (d : decode cc pc = .ok (.ifCond .le off, 3)) (ht : (pc : Int) + off = (tgt : Int)) (kt : x ≤ 0 → sW X nL cs σ tgt L st) (kf : ¬ (x ≤ 0) → sW X nL cs σ (pc + 3) L st) : sW X nL cs σ pc L (.int x :: st) := by
  obtain ⟨p, l, e, R, s, m, args, below, meth, c, D, cA, ad, A, Q⟩ := X
  obtain ⟨⟨hx, hb, hml, hown, hts⟩, hfr, hlo, hinv, hxt, hnew, hlk⟩ := h
  intro H locs ls hP hS hl
  exact lv_if_le hx hb d ht (fun q => kt q H locs ls hP hS hl) (fun q => kf q H locs ls hP hS hl)
theorem s_goto {X : sT} {cc : ByteArray} {own : String} {nL fr lo : Nat} {cs : Nat × Nat} {σ : Mm} {pc : Nat} {L : List (Option Value)} {st : List Value} {off : Int} {tgt : Nat} (h : sX X cc own nL fr lo) (d : decode cc pc = .ok (.goto off, 3)) (ht : (pc : Int) + off = (tgt : Int)) (k : sW X nL cs σ tgt L st) : sW X nL cs σ pc L st := by
  obtain ⟨p, l, e, R, s, m, args, below, meth, c, D, cA, ad, A, Q⟩ := X
  obtain ⟨⟨hx, hb, hml, hown, hts⟩, hfr, hlo, hinv, hxt, hnew, hlk⟩ := h
  intro H locs ls hP hS hl
  exact lv_goto hx hb d ht (k H locs ls hP hS hl)
theorem s_mask {X : sT} {nL : Nat} {cs : Nat × Nat} {σ : Mm} {pc : Nat} {L : List (Option Value)} {st : List Value} (b : List Bool) (k : sW X nL cs σ pc (lmk b L) st) : sW X nL cs σ pc L st := by
  obtain ⟨p, l, e, R, s, m, args, below, meth, c, D, cA, ad, A, Q⟩ := X
  intro H locs ls hP hS hl
  exact k H locs ls hP hS (hl.mask b)
theorem s_topi {X : sT} {nL : Nat} {cs : Nat × Nat} {σ : Mm} {pc : Nat} {L : List (Option Value)} {st : List Value} {v : Int32} (x : Int32) (hx : x = v) (k : sW X nL cs σ pc L (.int x :: st)) : sW X nL cs σ pc L (.int v :: st) := hx ▸ k
theorem s_topr {X : sT} {nL : Nat} {cs : Nat × Nat} {σ : Mm} {pc : Nat} {L : List (Option Value)} {st : List Value} {v : Nat} (x : Nat) (hx : x = v) (k : sW X nL cs σ pc L (.ref (sad X x) :: st)) : sW X nL cs σ pc L (.ref (sad X v) :: st) := hx ▸ k
