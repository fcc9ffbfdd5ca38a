set_option maxRecDepth 100000 in
theorem pCw_0 : pCw 0 ∈ lw_tbl := List.mem_of_getElem? (i := 94) rfl
set_option maxRecDepth 100000 in
theorem pCw_1 : pCw 1 ∈ lw_tbl := List.mem_of_getElem? (i := 295) rfl
set_option maxRecDepth 100000 in
theorem pCw_2 : pCw 2 ∈ lw_tbl := List.mem_of_getElem? (i := 418) rfl
set_option maxRecDepth 100000 in
theorem pCw_3 : pCw 3 ∈ lw_tbl := List.mem_of_getElem? (i := 572) rfl
set_option maxRecDepth 100000 in
theorem pCw_4 : pCw 4 ∈ lw_tbl := List.mem_of_getElem? (i := 619) rfl
set_option maxRecDepth 100000 in
theorem pCw_5 : pCw 5 ∈ lw_tbl := List.mem_of_getElem? (i := 239) rfl
set_option maxRecDepth 100000 in
theorem pCw_6 : pCw 6 ∈ lw_tbl := List.mem_of_getElem? (i := 645) rfl
set_option maxRecDepth 100000 in
theorem pCw_7 : pCw 7 ∈ lw_tbl := List.mem_of_getElem? (i := 652) rfl
set_option maxRecDepth 100000 in
theorem pCw_8 : pCw 8 ∈ lw_tbl := List.mem_of_getElem? (i := 660) rfl
set_option maxRecDepth 100000 in
theorem pCw_9 : pCw 9 ∈ lw_tbl := List.mem_of_getElem? (i := 755) rfl
set_option maxRecDepth 100000 in
theorem pCw_10 : pCw 10 ∈ lw_tbl := List.mem_of_getElem? (i := 766) rfl
set_option maxRecDepth 100000 in
theorem pCw_11 : pCw 11 ∈ lw_tbl := List.mem_of_getElem? (i := 793) rfl
set_option maxRecDepth 100000 in
theorem pCw_12 : pCw 12 ∈ lw_tbl := List.mem_of_getElem? (i := 813) rfl
set_option maxRecDepth 100000 in
theorem pCw_13 : pCw 13 ∈ lw_tbl := List.mem_of_getElem? (i := 835) rfl
set_option maxRecDepth 100000 in
theorem pCw_14 : pCw 14 ∈ lw_tbl := List.mem_of_getElem? (i := 851) rfl
set_option maxRecDepth 100000 in
theorem pCw_15 : pCw 15 ∈ lw_tbl := List.mem_of_getElem? (i := 860) rfl
set_option maxRecDepth 100000 in
theorem pCw_16 : pCw 16 ∈ lw_tbl := List.mem_of_getElem? (i := 867) rfl
set_option maxRecDepth 100000 in
theorem pCw_17 : pCw 17 ∈ lw_tbl := List.mem_of_getElem? (i := 874) rfl
set_option maxRecDepth 100000 in
theorem pCw_18 : pCw 18 ∈ lw_tbl := List.mem_of_getElem? (i := 885) rfl
set_option maxRecDepth 100000 in
theorem pCw_19 : pCw 19 ∈ lw_tbl := List.mem_of_getElem? (i := 243) rfl
set_option maxRecDepth 100000 in
theorem pCw_20 : pCw 20 ∈ lw_tbl := List.mem_of_getElem? (i := 247) rfl
set_option maxRecDepth 100000 in
theorem pCw_21 : pCw 21 ∈ lw_tbl := List.mem_of_getElem? (i := 670) rfl
set_option maxRecDepth 100000 in
theorem pCw_22 : pCw 22 ∈ lw_tbl := List.mem_of_getElem? (i := 770) rfl
set_option maxRecDepth 100000 in
theorem pCw_23 : pCw 23 ∈ lw_tbl := List.mem_of_getElem? (i := 694) rfl
set_option maxRecDepth 100000 in
theorem pCw_24 : pCw 24 ∈ lw_tbl := List.mem_of_getElem? (i := 817) rfl
set_option maxRecDepth 100000 in
theorem pCw_25 : pCw 25 ∈ lw_tbl := List.mem_of_getElem? (i := 576) rfl
set_option maxRecDepth 100000 in
theorem pCw_26 : pCw 26 ∈ lw_tbl := List.mem_of_getElem? (i := 299) rfl
set_option maxRecDepth 100000 in
theorem pCw_27 : pCw 27 ∈ lw_tbl := List.mem_of_getElem? (i := 663) rfl
set_option maxRecDepth 100000 in
theorem pCw_28 : pCw 28 ∈ lw_tbl := List.mem_of_getElem? (i := 666) rfl
set_option maxRecDepth 100000 in
theorem pCw_29 : pCw 29 ∈ lw_tbl := List.mem_of_getElem? (i := 622) rfl
set_option maxRecDepth 100000 in
theorem pCw_30 : pCw 30 ∈ lw_tbl := List.mem_of_getElem? (i := 674) rfl
set_option maxRecDepth 100000 in
theorem pCw_31 : pCw 31 ∈ lw_tbl := List.mem_of_getElem? (i := 422) rfl
set_option maxRecDepth 100000 in
theorem pCw_32 : pCw 32 ∈ lw_tbl := List.mem_of_getElem? (i := 719) rfl
set_option maxRecDepth 100000 in
theorem pCw_33 : pCw 33 ∈ lw_tbl := List.mem_of_getElem? (i := 210) rfl
set_option maxRecDepth 100000 in
theorem pCw_34 : pCw 34 ∈ lw_tbl := List.mem_of_getElem? (i := 480) rfl
set_option maxRecDepth 100000 in
theorem pCw_35 : pCw 35 ∈ lw_tbl := List.mem_of_getElem? (i := 556) rfl
set_option maxRecDepth 100000 in
theorem pCw_36 : pCw 36 ∈ lw_tbl := List.mem_of_getElem? (i := 484) rfl
set_option maxRecDepth 100000 in
theorem pCw_37 : pCw 37 ∈ lw_tbl := List.mem_of_getElem? (i := 487) rfl
set_option maxRecDepth 100000 in
theorem pCw_38 : pCw 38 ∈ lw_tbl := List.mem_of_getElem? (i := 498) rfl
set_option maxRecDepth 100000 in
theorem pCw_39 : pCw 39 ∈ lw_tbl := List.mem_of_getElem? (i := 502) rfl
set_option maxRecDepth 100000 in
theorem pCw_40 : pCw 40 ∈ lw_tbl := List.mem_of_getElem? (i := 505) rfl
set_option maxRecDepth 100000 in
theorem pCw_41 : pCw 41 ∈ lw_tbl := List.mem_of_getElem? (i := 508) rfl
set_option maxRecDepth 100000 in
theorem pCw_42 : pCw 42 ∈ lw_tbl := List.mem_of_getElem? (i := 511) rfl
set_option maxRecDepth 100000 in
theorem pCw_43 : pCw 43 ∈ lw_tbl := List.mem_of_getElem? (i := 514) rfl
set_option maxRecDepth 100000 in
theorem pCw_44 : pCw 44 ∈ lw_tbl := List.mem_of_getElem? (i := 530) rfl
set_option maxRecDepth 100000 in
theorem pCw_45 : pCw 45 ∈ lw_tbl := List.mem_of_getElem? (i := 534) rfl
set_option maxRecDepth 100000 in
theorem pCw_46 : pCw 46 ∈ lw_tbl := List.mem_of_getElem? (i := 538) rfl
set_option maxRecDepth 100000 in
theorem pCw_47 : pCw 47 ∈ lw_tbl := List.mem_of_getElem? (i := 542) rfl
set_option maxRecDepth 100000 in
theorem pCw_48 : pCw 48 ∈ lw_tbl := List.mem_of_getElem? (i := 545) rfl
set_option maxRecDepth 100000 in
theorem pCw_49 : pCw 49 ∈ lw_tbl := List.mem_of_getElem? (i := 102) rfl
set_option maxRecDepth 100000 in
theorem pCw_50 : pCw 50 ∈ lw_tbl := List.mem_of_getElem? (i := 383) rfl
set_option maxRecDepth 100000 in
theorem pCw_51 : pCw 51 ∈ lw_tbl := List.mem_of_getElem? (i := 410) rfl
set_option maxRecDepth 100000 in
theorem pCw_52 : pCw 52 ∈ lw_tbl := List.mem_of_getElem? (i := 878) rfl
set_option maxRecDepth 100000 in
theorem pCw_53 : pCw 53 ∈ lw_tbl := List.mem_of_getElem? (i := 387) rfl
set_option maxRecDepth 100000 in
theorem pCw_54 : pCw 54 ∈ lw_tbl := List.mem_of_getElem? (i := 170) rfl
set_option maxRecDepth 100000 in
theorem pCw_55 : pCw 55 ∈ lw_tbl := List.mem_of_getElem? (i := 257) rfl
set_option maxRecDepth 100000 in
theorem pCw_56 : pCw 56 ∈ lw_tbl := List.mem_of_getElem? (i := 581) rfl
set_option maxRecDepth 100000 in
theorem pCw_57 : pCw 57 ∈ lw_tbl := List.mem_of_getElem? (i := 591) rfl
set_option maxRecDepth 100000 in
theorem pCw_58 : pCw 58 ∈ lw_tbl := List.mem_of_getElem? (i := 474) rfl
set_option maxRecDepth 100000 in
theorem pCw_59 : pCw 59 ∈ lw_tbl := List.mem_of_getElem? (i := 442) rfl
set_option maxRecDepth 100000 in
theorem pCw_60 : pCw 60 ∈ lw_tbl := List.mem_of_getElem? (i := 585) rfl
set_option maxRecDepth 100000 in
theorem pCw_61 : pCw 61 ∈ lw_tbl := List.mem_of_getElem? (i := 595) rfl
set_option maxRecDepth 100000 in
theorem pCw_62 : pCw 62 ∈ lw_tbl := List.mem_of_getElem? (i := 603) rfl
set_option maxRecDepth 100000 in
theorem pCw_63 : pCw 63 ∈ lw_tbl := List.mem_of_getElem? (i := 608) rfl
set_option maxRecDepth 100000 in
theorem pCw_64 : pCw 64 ∈ lw_tbl := List.mem_of_getElem? (i := 599) rfl
set_option maxRecDepth 100000 in
theorem pCw_65 : pCw 65 ∈ lw_tbl := List.mem_of_getElem? (i := 469) rfl
set_option maxRecDepth 100000 in
theorem pCw_66 : pCw 66 ∈ lw_tbl := List.mem_of_getElem? (i := 460) rfl
set_option maxRecDepth 100000 in
theorem pCw_67 : pCw 67 ∈ lw_tbl := List.mem_of_getElem? (i := 446) rfl
set_option maxRecDepth 100000 in
theorem pCw_68 : pCw 68 ∈ lw_tbl := List.mem_of_getElem? (i := 464) rfl
set_option maxRecDepth 100000 in
theorem pCw_69 : pCw 69 ∈ lw_tbl := List.mem_of_getElem? (i := 454) rfl
set_option maxRecDepth 100000 in
theorem pCw_70 : pCw 70 ∈ lw_tbl := List.mem_of_getElem? (i := 141) rfl
set_option maxRecDepth 100000 in
theorem pCw_71 : pCw 71 ∈ lw_tbl := List.mem_of_getElem? (i := 560) rfl
set_option maxRecDepth 100000 in
theorem pCw_72 : pCw 72 ∈ lw_tbl := List.mem_of_getElem? (i := 565) rfl
set_option maxRecDepth 100000 in
theorem pCw_73 : pCw 73 ∈ lw_tbl := List.mem_of_getElem? (i := 373) rfl
set_option maxRecDepth 100000 in
theorem pCw_74 : pCw 74 ∈ lw_tbl := List.mem_of_getElem? (i := 728) rfl
set_option maxRecDepth 100000 in
theorem pCw_75 : pCw 75 ∈ lw_tbl := List.mem_of_getElem? (i := 276) rfl
set_option maxRecDepth 100000 in
theorem pCw_76 : pCw 76 ∈ lw_tbl := List.mem_of_getElem? (i := 280) rfl
set_option maxRecDepth 100000 in
theorem pCw_77 : pCw 77 ∈ lw_tbl := List.mem_of_getElem? (i := 706) rfl
set_option maxRecDepth 100000 in
theorem pCw_78 : pCw 78 ∈ lw_tbl := List.mem_of_getElem? (i := 272) rfl
set_option maxRecDepth 100000 in
theorem pCw_79 : pCw 79 ∈ lw_tbl := List.mem_of_getElem? (i := 265) rfl
set_option maxRecDepth 100000 in
theorem pCw_80 : pCw 80 ∈ lw_tbl := List.mem_of_getElem? (i := 261) rfl
set_option maxRecDepth 100000 in
theorem pCw_81 : pCw 81 ∈ lw_tbl := List.mem_of_getElem? (i := 736) rfl
set_option maxRecDepth 100000 in
theorem pCw_82 : pCw 82 ∈ lw_tbl := List.mem_of_getElem? (i := 732) rfl
set_option maxRecDepth 100000 in
theorem pCw_83 : pCw 83 ∈ lw_tbl := List.mem_of_getElem? (i := 785) rfl
set_option maxRecDepth 100000 in
theorem pCw_84 : pCw 84 ∈ lw_tbl := List.mem_of_getElem? (i := 740) rfl
set_option maxRecDepth 100000 in
theorem pCw_85 : pCw 85 ∈ lw_tbl := List.mem_of_getElem? (i := 724) rfl
set_option maxRecDepth 100000 in
theorem pCw_86 : pCw 86 ∈ lw_tbl := List.mem_of_getElem? (i := 759) rfl
set_option maxRecDepth 100000 in
theorem pCw_87 : pCw 87 ∈ lw_tbl := List.mem_of_getElem? (i := 781) rfl
set_option maxRecDepth 100000 in
theorem pCw_88 : pCw 88 ∈ lw_tbl := List.mem_of_getElem? (i := 699) rfl
set_option maxRecDepth 100000 in
theorem pCw_89 : pCw 89 ∈ lw_tbl := List.mem_of_getElem? (i := 714) rfl
set_option maxRecDepth 100000 in
theorem pCw_90 : pCw 90 ∈ lw_tbl := List.mem_of_getElem? (i := 710) rfl
set_option maxRecDepth 100000 in
theorem pCw_91 : pCw 91 ∈ lw_tbl := List.mem_of_getElem? (i := 744) rfl
set_option maxRecDepth 100000 in
theorem pCw_92 : pCw 92 ∈ lw_tbl := List.mem_of_getElem? (i := 775) rfl
set_option maxRecDepth 100000 in
theorem pCw_93 : pCw 93 ∈ lw_tbl := List.mem_of_getElem? (i := 797) rfl
set_option maxRecDepth 100000 in
theorem pCw_94 : pCw 94 ∈ lw_tbl := List.mem_of_getElem? (i := 801) rfl
set_option maxRecDepth 100000 in
theorem pCw_95 : pCw 95 ∈ lw_tbl := List.mem_of_getElem? (i := 805) rfl
set_option maxRecDepth 100000 in
theorem pCw_96 : pCw 96 ∈ lw_tbl := List.mem_of_getElem? (i := 821) rfl
set_option maxRecDepth 100000 in
theorem pCw_97 : pCw 97 ∈ lw_tbl := List.mem_of_getElem? (i := 843) rfl
set_option maxRecDepth 100000 in
theorem pCw_98 : pCw 98 ∈ lw_tbl := List.mem_of_getElem? (i := 825) rfl
set_option maxRecDepth 100000 in
theorem pCw_99 : pCw 99 ∈ lw_tbl := List.mem_of_getElem? (i := 839) rfl
set_option maxRecDepth 100000 in
theorem pCw_100 : pCw 100 ∈ lw_tbl := List.mem_of_getElem? (i := 890) rfl
set_option maxRecDepth 100000 in
theorem pCw_101 : pCw 101 ∈ lw_tbl := List.mem_of_getElem? (i := 978) rfl
set_option maxRecDepth 100000 in
theorem pCw_102 : pCw 102 ∈ lw_tbl := List.mem_of_getElem? (i := 1008) rfl
set_option maxRecDepth 100000 in
theorem pCw_103 : pCw 103 ∈ lw_tbl := List.mem_of_getElem? (i := 1016) rfl
set_option maxRecDepth 100000 in
theorem pCw_104 : pCw 104 ∈ lw_tbl := List.mem_of_getElem? (i := 1004) rfl
set_option maxRecDepth 100000 in
theorem pCw_105 : pCw 105 ∈ lw_tbl := List.mem_of_getElem? (i := 998) rfl
set_option maxRecDepth 100000 in
theorem pCw_106 : pCw 106 ∈ lw_tbl := List.mem_of_getElem? (i := 1012) rfl
set_option maxRecDepth 100000 in
theorem pCw_107 : pCw 107 ∈ lw_tbl := List.mem_of_getElem? (i := 982) rfl
set_option maxRecDepth 100000 in
theorem pCw_108 : pCw 108 ∈ lw_tbl := List.mem_of_getElem? (i := 986) rfl
set_option maxRecDepth 100000 in
theorem pCw_109 : pCw 109 ∈ lw_tbl := List.mem_of_getElem? (i := 994) rfl
set_option maxRecDepth 100000 in
theorem pCw_110 : pCw 110 ∈ lw_tbl := List.mem_of_getElem? (i := 990) rfl
set_option maxRecDepth 100000 in
theorem pCw_111 : pCw 111 ∈ lw_tbl := List.mem_of_getElem? (i := 1036) rfl
set_option maxRecDepth 100000 in
theorem pCw_112 : pCw 112 ∈ lw_tbl := List.mem_of_getElem? (i := 1093) rfl
set_option maxRecDepth 100000 in
theorem pCw_113 : pCw 113 ∈ lw_tbl := List.mem_of_getElem? (i := 1097) rfl
set_option maxRecDepth 100000 in
theorem pCw_114 : pCw 114 ∈ lw_tbl := List.mem_of_getElem? (i := 1089) rfl
set_option maxRecDepth 100000 in
theorem pCw_115 : pCw 115 ∈ lw_tbl := List.mem_of_getElem? (i := 1101) rfl
set_option maxRecDepth 100000 in
theorem pCw_116 : pCw 116 ∈ lw_tbl := List.mem_of_getElem? (i := 1028) rfl
set_option maxRecDepth 100000 in
theorem pCw_117 : pCw 117 ∈ lw_tbl := List.mem_of_getElem? (i := 1032) rfl
set_option maxRecDepth 100000 in
theorem pCw_118 : pCw 118 ∈ lw_tbl := List.mem_of_getElem? (i := 1024) rfl
set_option maxRecDepth 100000 in
theorem pCw_119 : pCw 119 ∈ lw_tbl := List.mem_of_getElem? (i := 1020) rfl
set_option maxRecDepth 100000 in
theorem pCw_120 : pCw 120 ∈ lw_tbl := List.mem_of_getElem? (i := 1085) rfl
set_option maxRecDepth 100000 in
theorem pCw_121 : pCw 121 ∈ lw_tbl := List.mem_of_getElem? (i := 1105) rfl
set_option maxRecDepth 100000 in
theorem pCw_122 : pCw 122 ∈ lw_tbl := List.mem_of_getElem? (i := 1109) rfl
set_option maxRecDepth 100000 in
theorem pCw_123 : pCw 123 ∈ lw_tbl := List.mem_of_getElem? (i := 1133) rfl
set_option maxRecDepth 100000 in
theorem pCw_124 : pCw 124 ∈ lw_tbl := List.mem_of_getElem? (i := 1129) rfl
set_option maxRecDepth 100000 in
theorem pCw_125 : pCw 125 ∈ lw_tbl := List.mem_of_getElem? (i := 1161) rfl
set_option maxRecDepth 100000 in
theorem pCw_126 : pCw 126 ∈ lw_tbl := List.mem_of_getElem? (i := 1165) rfl
set_option maxRecDepth 100000 in
theorem pCw_127 : pCw 127 ∈ lw_tbl := List.mem_of_getElem? (i := 1157) rfl
set_option maxRecDepth 100000 in
theorem pCw_128 : pCw 128 ∈ lw_tbl := List.mem_of_getElem? (i := 1153) rfl
set_option maxRecDepth 100000 in
theorem pCw_129 : pCw 129 ∈ lw_tbl := List.mem_of_getElem? (i := 1145) rfl
set_option maxRecDepth 100000 in
theorem pCw_130 : pCw 130 ∈ lw_tbl := List.mem_of_getElem? (i := 1169) rfl
set_option maxRecDepth 100000 in
theorem pCw_131 : pCw 131 ∈ lw_tbl := List.mem_of_getElem? (i := 1201) rfl
set_option maxRecDepth 100000 in
theorem pCw_132 : pCw 132 ∈ lw_tbl := List.mem_of_getElem? (i := 1141) rfl
set_option maxRecDepth 100000 in
theorem pCw_133 : pCw 133 ∈ lw_tbl := List.mem_of_getElem? (i := 1137) rfl
set_option maxRecDepth 100000 in
theorem pCw_134 : pCw 134 ∈ lw_tbl := List.mem_of_getElem? (i := 1193) rfl
set_option maxRecDepth 100000 in
theorem pCw_135 : pCw 135 ∈ lw_tbl := List.mem_of_getElem? (i := 1117) rfl
set_option maxRecDepth 100000 in
theorem pCw_136 : pCw 136 ∈ lw_tbl := List.mem_of_getElem? (i := 1121) rfl
set_option maxRecDepth 100000 in
theorem pCw_137 : pCw 137 ∈ lw_tbl := List.mem_of_getElem? (i := 1125) rfl
set_option maxRecDepth 100000 in
theorem pCw_138 : pCw 138 ∈ lw_tbl := List.mem_of_getElem? (i := 1149) rfl
set_option maxRecDepth 100000 in
theorem pCw_139 : pCw 139 ∈ lw_tbl := List.mem_of_getElem? (i := 1173) rfl
set_option maxRecDepth 100000 in
theorem pCw_140 : pCw 140 ∈ lw_tbl := List.mem_of_getElem? (i := 1113) rfl
set_option maxRecDepth 100000 in
theorem pCw_141 : pCw 141 ∈ lw_tbl := List.mem_of_getElem? (i := 1177) rfl
set_option maxRecDepth 100000 in
theorem pCw_142 : pCw 142 ∈ lw_tbl := List.mem_of_getElem? (i := 1185) rfl
set_option maxRecDepth 100000 in
theorem pCw_143 : pCw 143 ∈ lw_tbl := List.mem_of_getElem? (i := 1189) rfl
set_option maxRecDepth 100000 in
theorem pCw_144 : pCw 144 ∈ lw_tbl := List.mem_of_getElem? (i := 1197) rfl
set_option maxRecDepth 100000 in
theorem pCw_145 : pCw 145 ∈ lw_tbl := List.mem_of_getElem? (i := 1181) rfl
set_option maxRecDepth 100000 in
theorem pCw_146 : pCw 146 ∈ lw_tbl := List.mem_of_getElem? (i := 1209) rfl
set_option maxRecDepth 100000 in
theorem pCw_147 : pCw 147 ∈ lw_tbl := List.mem_of_getElem? (i := 1205) rfl
set_option maxRecDepth 100000 in
theorem pCw_148 : pCw 148 ∈ lw_tbl := List.mem_of_getElem? (i := 1217) rfl
set_option maxRecDepth 100000 in
theorem pCw_149 : pCw 149 ∈ lw_tbl := List.mem_of_getElem? (i := 1213) rfl
set_option maxRecDepth 100000 in
theorem pCw_150 : pCw 150 ∈ lw_tbl := List.mem_of_getElem? (i := 1221) rfl
set_option maxRecDepth 100000 in
theorem pCw_151 : pCw 151 ∈ lw_tbl := List.mem_of_getElem? (i := 1225) rfl
set_option maxRecDepth 100000 in
theorem pCw_152 : pCw 152 ∈ lw_tbl := List.mem_of_getElem? (i := 1229) rfl
set_option maxRecDepth 100000 in
theorem pCw_153 : pCw 153 ∈ lw_tbl := List.mem_of_getElem? (i := 1052) rfl
set_option maxRecDepth 100000 in
theorem pCw_154 : pCw 154 ∈ lw_tbl := List.mem_of_getElem? (i := 1056) rfl
set_option maxRecDepth 100000 in
theorem pCw_155 : pCw 155 ∈ lw_tbl := List.mem_of_getElem? (i := 1072) rfl
set_option maxRecDepth 100000 in
theorem pCw_156 : pCw 156 ∈ lw_tbl := List.mem_of_getElem? (i := 1048) rfl
set_option maxRecDepth 100000 in
theorem pCw_157 : pCw 157 ∈ lw_tbl := List.mem_of_getElem? (i := 1060) rfl
set_option maxRecDepth 100000 in
theorem pCw_158 : pCw 158 ∈ lw_tbl := List.mem_of_getElem? (i := 1044) rfl
set_option maxRecDepth 100000 in
theorem pCw_159 : pCw 159 ∈ lw_tbl := List.mem_of_getElem? (i := 1068) rfl
set_option maxRecDepth 100000 in
theorem pCw_160 : pCw 160 ∈ lw_tbl := List.mem_of_getElem? (i := 1064) rfl
set_option maxRecDepth 100000 in
theorem pCw_161 : pCw 161 ∈ lw_tbl := List.mem_of_getElem? (i := 1077) rfl
set_option maxRecDepth 100000 in
theorem pCw_162 : pCw 162 ∈ lw_tbl := List.mem_of_getElem? (i := 1081) rfl
set_option maxRecDepth 100000 in
theorem pCw_163 : pCw 163 ∈ lw_tbl := List.mem_of_getElem? (i := 1040) rfl
set_option maxRecDepth 100000 in
theorem pCw_164 : pCw 164 ∈ lw_tbl := List.mem_of_getElem? (i := 1233) rfl
set_option maxRecDepth 100000 in
theorem pCw_165 : pCw 165 ∈ lw_tbl := List.mem_of_getElem? (i := 1237) rfl
set_option maxRecDepth 100000 in
theorem pCw_166 : pCw 166 ∈ lw_tbl := List.mem_of_getElem? (i := 1241) rfl
set_option maxRecDepth 100000 in
theorem pCw_167 : pCw 167 ∈ lw_tbl := List.mem_of_getElem? (i := 1245) rfl
set_option maxRecDepth 100000 in
theorem pCw_168 : pCw 168 ∈ lw_tbl := List.mem_of_getElem? (i := 286) rfl
set_option maxRecDepth 100000 in
theorem pCw_169 : pCw 169 ∈ lw_tbl := List.mem_of_getElem? (i := 283) rfl
set_option maxRecDepth 100000 in
theorem pCw_170 : pCw 170 ∈ lw_tbl := List.mem_of_getElem? (i := 495) rfl
set_option maxRecDepth 100000 in
theorem pCw_171 : pCw 171 ∈ lw_tbl := List.mem_of_getElem? (i := 492) rfl
set_option maxRecDepth 100000 in
theorem pCw_172 : pCw 172 ∈ lw_tbl := List.mem_of_getElem? (i := 520) rfl
set_option maxRecDepth 100000 in
theorem pCw_173 : pCw 173 ∈ lw_tbl := List.mem_of_getElem? (i := 517) rfl
set_option maxRecDepth 100000 in
theorem pCw_174 : pCw 174 ∈ lw_tbl := List.mem_of_getElem? (i := 523) rfl
set_option maxRecDepth 100000 in
theorem pCw_175 : pCw 175 ∈ lw_tbl := List.mem_of_getElem? (i := 526) rfl
set_option maxRecDepth 100000 in
theorem pCw_176 : pCw 176 ∈ lw_tbl := List.mem_of_getElem? (i := 748) rfl
set_option maxRecDepth 100000 in
theorem pCw_177 : pCw 177 ∈ lw_tbl := List.mem_of_getElem? (i := 457) rfl
set_option maxRecDepth 100000 in
theorem pCw_178 : pCw 178 ∈ lw_tbl := List.mem_of_getElem? (i := 268) rfl
set_option maxRecDepth 100000 in
theorem pCw_179 : pCw 179 ∈ lw_tbl := List.mem_of_getElem? (i := 449) rfl
set_option maxRecDepth 100000 in
theorem pCw_180 : pCw 180 ∈ lw_tbl := List.mem_of_getElem? (i := 289) rfl
set_option maxRecDepth 100000 in
theorem pCw_181 : pCw 181 ∈ lw_tbl := List.mem_of_getElem? (i := 413) rfl
set_option maxRecDepth 100000 in
theorem pCw_182 : pCw 182 ∈ lw_tbl := List.mem_of_getElem? (i := 568) rfl
set_option maxRecDepth 100000 in
theorem pCw_183 : pCw 183 ∈ lw_tbl := List.mem_of_getElem? (i := 614) rfl
set_option maxRecDepth 100000 in
theorem pCw_184 : pCw 184 ∈ lw_tbl := List.mem_of_getElem? (i := 641) rfl
set_option maxRecDepth 100000 in
theorem pCw_185 : pCw 185 ∈ lw_tbl := List.mem_of_getElem? (i := 648) rfl
set_option maxRecDepth 100000 in
theorem pCw_186 : pCw 186 ∈ lw_tbl := List.mem_of_getElem? (i := 655) rfl
set_option maxRecDepth 100000 in
theorem pCw_187 : pCw 187 ∈ lw_tbl := List.mem_of_getElem? (i := 751) rfl
set_option maxRecDepth 100000 in
theorem pCw_188 : pCw 188 ∈ lw_tbl := List.mem_of_getElem? (i := 762) rfl
set_option maxRecDepth 100000 in
theorem pCw_189 : pCw 189 ∈ lw_tbl := List.mem_of_getElem? (i := 789) rfl
set_option maxRecDepth 100000 in
theorem pCw_190 : pCw 190 ∈ lw_tbl := List.mem_of_getElem? (i := 809) rfl
set_option maxRecDepth 100000 in
theorem pCw_191 : pCw 191 ∈ lw_tbl := List.mem_of_getElem? (i := 831) rfl
set_option maxRecDepth 100000 in
theorem pCw_192 : pCw 192 ∈ lw_tbl := List.mem_of_getElem? (i := 847) rfl
set_option maxRecDepth 100000 in
theorem pCw_193 : pCw 193 ∈ lw_tbl := List.mem_of_getElem? (i := 856) rfl
set_option maxRecDepth 100000 in
theorem pCw_194 : pCw 194 ∈ lw_tbl := List.mem_of_getElem? (i := 863) rfl
set_option maxRecDepth 100000 in
theorem pCw_195 : pCw 195 ∈ lw_tbl := List.mem_of_getElem? (i := 870) rfl
set_option maxRecDepth 100000 in
theorem pCw_196 : pCw 196 ∈ lw_tbl := List.mem_of_getElem? (i := 881) rfl
set_option maxRecDepth 100000 in
theorem pCw_198 : pCw 198 ∈ lw_tbl := List.mem_of_getElem? (i := 549) rfl
set_option maxRecDepth 100000 in
theorem pCw_199 : pCw 199 ∈ lw_tbl := List.mem_of_getElem? (i := 250) rfl
set_option maxRecDepth 100000 in
theorem pCw_200 : pCw 200 ∈ lw_tbl := List.mem_of_getElem? (i := 376) rfl
def pCwP (k : Nat) : Prop := k = 197 ∨ pCw k ∈ lw_tbl
theorem pCwc_0 (j : Nat) (h : j < 20) : pCwP (0 + j) := by
  match j, h with
  | 0, _ => exact Or.inr pCw_0
  | 1, _ => exact Or.inr pCw_1
  | 2, _ => exact Or.inr pCw_2
  | 3, _ => exact Or.inr pCw_3
  | 4, _ => exact Or.inr pCw_4
  | 5, _ => exact Or.inr pCw_5
  | 6, _ => exact Or.inr pCw_6
  | 7, _ => exact Or.inr pCw_7
  | 8, _ => exact Or.inr pCw_8
  | 9, _ => exact Or.inr pCw_9
  | 10, _ => exact Or.inr pCw_10
  | 11, _ => exact Or.inr pCw_11
  | 12, _ => exact Or.inr pCw_12
  | 13, _ => exact Or.inr pCw_13
  | 14, _ => exact Or.inr pCw_14
  | 15, _ => exact Or.inr pCw_15
  | 16, _ => exact Or.inr pCw_16
  | 17, _ => exact Or.inr pCw_17
  | 18, _ => exact Or.inr pCw_18
  | 19, _ => exact Or.inr pCw_19
  | j + 20, h => exact absurd h (by omega)
theorem pCwc_20 (j : Nat) (h : j < 20) : pCwP (20 + j) := by
  match j, h with
  | 0, _ => exact Or.inr pCw_20
  | 1, _ => exact Or.inr pCw_21
  | 2, _ => exact Or.inr pCw_22
  | 3, _ => exact Or.inr pCw_23
  | 4, _ => exact Or.inr pCw_24
  | 5, _ => exact Or.inr pCw_25
  | 6, _ => exact Or.inr pCw_26
  | 7, _ => exact Or.inr pCw_27
  | 8, _ => exact Or.inr pCw_28
  | 9, _ => exact Or.inr pCw_29
  | 10, _ => exact Or.inr pCw_30
  | 11, _ => exact Or.inr pCw_31
  | 12, _ => exact Or.inr pCw_32
  | 13, _ => exact Or.inr pCw_33
  | 14, _ => exact Or.inr pCw_34
  | 15, _ => exact Or.inr pCw_35
  | 16, _ => exact Or.inr pCw_36
  | 17, _ => exact Or.inr pCw_37
  | 18, _ => exact Or.inr pCw_38
  | 19, _ => exact Or.inr pCw_39
  | j + 20, h => exact absurd h (by omega)
theorem pCwc_40 (j : Nat) (h : j < 20) : pCwP (40 + j) := by
  match j, h with
  | 0, _ => exact Or.inr pCw_40
  | 1, _ => exact Or.inr pCw_41
  | 2, _ => exact Or.inr pCw_42
  | 3, _ => exact Or.inr pCw_43
  | 4, _ => exact Or.inr pCw_44
  | 5, _ => exact Or.inr pCw_45
  | 6, _ => exact Or.inr pCw_46
  | 7, _ => exact Or.inr pCw_47
  | 8, _ => exact Or.inr pCw_48
  | 9, _ => exact Or.inr pCw_49
  | 10, _ => exact Or.inr pCw_50
  | 11, _ => exact Or.inr pCw_51
  | 12, _ => exact Or.inr pCw_52
  | 13, _ => exact Or.inr pCw_53
  | 14, _ => exact Or.inr pCw_54
  | 15, _ => exact Or.inr pCw_55
  | 16, _ => exact Or.inr pCw_56
  | 17, _ => exact Or.inr pCw_57
  | 18, _ => exact Or.inr pCw_58
  | 19, _ => exact Or.inr pCw_59
  | j + 20, h => exact absurd h (by omega)
theorem pCwc_60 (j : Nat) (h : j < 20) : pCwP (60 + j) := by
  match j, h with
  | 0, _ => exact Or.inr pCw_60
  | 1, _ => exact Or.inr pCw_61
  | 2, _ => exact Or.inr pCw_62
  | 3, _ => exact Or.inr pCw_63
  | 4, _ => exact Or.inr pCw_64
  | 5, _ => exact Or.inr pCw_65
  | 6, _ => exact Or.inr pCw_66
  | 7, _ => exact Or.inr pCw_67
  | 8, _ => exact Or.inr pCw_68
  | 9, _ => exact Or.inr pCw_69
  | 10, _ => exact Or.inr pCw_70
  | 11, _ => exact Or.inr pCw_71
  | 12, _ => exact Or.inr pCw_72
  | 13, _ => exact Or.inr pCw_73
  | 14, _ => exact Or.inr pCw_74
  | 15, _ => exact Or.inr pCw_75
  | 16, _ => exact Or.inr pCw_76
  | 17, _ => exact Or.inr pCw_77
  | 18, _ => exact Or.inr pCw_78
  | 19, _ => exact Or.inr pCw_79
  | j + 20, h => exact absurd h (by omega)
theorem pCwc_80 (j : Nat) (h : j < 20) : pCwP (80 + j) := by
  match j, h with
  | 0, _ => exact Or.inr pCw_80
  | 1, _ => exact Or.inr pCw_81
  | 2, _ => exact Or.inr pCw_82
  | 3, _ => exact Or.inr pCw_83
  | 4, _ => exact Or.inr pCw_84
  | 5, _ => exact Or.inr pCw_85
  | 6, _ => exact Or.inr pCw_86
  | 7, _ => exact Or.inr pCw_87
  | 8, _ => exact Or.inr pCw_88
  | 9, _ => exact Or.inr pCw_89
  | 10, _ => exact Or.inr pCw_90
  | 11, _ => exact Or.inr pCw_91
  | 12, _ => exact Or.inr pCw_92
  | 13, _ => exact Or.inr pCw_93
  | 14, _ => exact Or.inr pCw_94
  | 15, _ => exact Or.inr pCw_95
  | 16, _ => exact Or.inr pCw_96
  | 17, _ => exact Or.inr pCw_97
  | 18, _ => exact Or.inr pCw_98
  | 19, _ => exact Or.inr pCw_99
  | j + 20, h => exact absurd h (by omega)
theorem pCwc_100 (j : Nat) (h : j < 20) : pCwP (100 + j) := by
  match j, h with
  | 0, _ => exact Or.inr pCw_100
  | 1, _ => exact Or.inr pCw_101
  | 2, _ => exact Or.inr pCw_102
  | 3, _ => exact Or.inr pCw_103
  | 4, _ => exact Or.inr pCw_104
  | 5, _ => exact Or.inr pCw_105
  | 6, _ => exact Or.inr pCw_106
  | 7, _ => exact Or.inr pCw_107
  | 8, _ => exact Or.inr pCw_108
  | 9, _ => exact Or.inr pCw_109
  | 10, _ => exact Or.inr pCw_110
  | 11, _ => exact Or.inr pCw_111
  | 12, _ => exact Or.inr pCw_112
  | 13, _ => exact Or.inr pCw_113
  | 14, _ => exact Or.inr pCw_114
  | 15, _ => exact Or.inr pCw_115
  | 16, _ => exact Or.inr pCw_116
  | 17, _ => exact Or.inr pCw_117
  | 18, _ => exact Or.inr pCw_118
  | 19, _ => exact Or.inr pCw_119
  | j + 20, h => exact absurd h (by omega)
theorem pCwc_120 (j : Nat) (h : j < 20) : pCwP (120 + j) := by
  match j, h with
  | 0, _ => exact Or.inr pCw_120
  | 1, _ => exact Or.inr pCw_121
  | 2, _ => exact Or.inr pCw_122
  | 3, _ => exact Or.inr pCw_123
  | 4, _ => exact Or.inr pCw_124
  | 5, _ => exact Or.inr pCw_125
  | 6, _ => exact Or.inr pCw_126
  | 7, _ => exact Or.inr pCw_127
  | 8, _ => exact Or.inr pCw_128
  | 9, _ => exact Or.inr pCw_129
  | 10, _ => exact Or.inr pCw_130
  | 11, _ => exact Or.inr pCw_131
  | 12, _ => exact Or.inr pCw_132
  | 13, _ => exact Or.inr pCw_133
  | 14, _ => exact Or.inr pCw_134
  | 15, _ => exact Or.inr pCw_135
  | 16, _ => exact Or.inr pCw_136
  | 17, _ => exact Or.inr pCw_137
  | 18, _ => exact Or.inr pCw_138
  | 19, _ => exact Or.inr pCw_139
  | j + 20, h => exact absurd h (by omega)
theorem pCwc_140 (j : Nat) (h : j < 20) : pCwP (140 + j) := by
  match j, h with
  | 0, _ => exact Or.inr pCw_140
  | 1, _ => exact Or.inr pCw_141
  | 2, _ => exact Or.inr pCw_142
  | 3, _ => exact Or.inr pCw_143
  | 4, _ => exact Or.inr pCw_144
  | 5, _ => exact Or.inr pCw_145
  | 6, _ => exact Or.inr pCw_146
  | 7, _ => exact Or.inr pCw_147
  | 8, _ => exact Or.inr pCw_148
  | 9, _ => exact Or.inr pCw_149
  | 10, _ => exact Or.inr pCw_150
  | 11, _ => exact Or.inr pCw_151
  | 12, _ => exact Or.inr pCw_152
  | 13, _ => exact Or.inr pCw_153
  | 14, _ => exact Or.inr pCw_154
  | 15, _ => exact Or.inr pCw_155
  | 16, _ => exact Or.inr pCw_156
  | 17, _ => exact Or.inr pCw_157
  | 18, _ => exact Or.inr pCw_158
  | 19, _ => exact Or.inr pCw_159
  | j + 20, h => exact absurd h (by omega)
theorem pCwc_160 (j : Nat) (h : j < 20) : pCwP (160 + j) := by
  match j, h with
  | 0, _ => exact Or.inr pCw_160
  | 1, _ => exact Or.inr pCw_161
  | 2, _ => exact Or.inr pCw_162
  | 3, _ => exact Or.inr pCw_163
  | 4, _ => exact Or.inr pCw_164
  | 5, _ => exact Or.inr pCw_165
  | 6, _ => exact Or.inr pCw_166
  | 7, _ => exact Or.inr pCw_167
  | 8, _ => exact Or.inr pCw_168
  | 9, _ => exact Or.inr pCw_169
  | 10, _ => exact Or.inr pCw_170
  | 11, _ => exact Or.inr pCw_171
  | 12, _ => exact Or.inr pCw_172
  | 13, _ => exact Or.inr pCw_173
  | 14, _ => exact Or.inr pCw_174
  | 15, _ => exact Or.inr pCw_175
  | 16, _ => exact Or.inr pCw_176
  | 17, _ => exact Or.inr pCw_177
  | 18, _ => exact Or.inr pCw_178
  | 19, _ => exact Or.inr pCw_179
  | j + 20, h => exact absurd h (by omega)
theorem pCwc_180 (j : Nat) (h : j < 20) : pCwP (180 + j) := by
  match j, h with
  | 0, _ => exact Or.inr pCw_180
  | 1, _ => exact Or.inr pCw_181
  | 2, _ => exact Or.inr pCw_182
  | 3, _ => exact Or.inr pCw_183
  | 4, _ => exact Or.inr pCw_184
  | 5, _ => exact Or.inr pCw_185
  | 6, _ => exact Or.inr pCw_186
  | 7, _ => exact Or.inr pCw_187
  | 8, _ => exact Or.inr pCw_188
  | 9, _ => exact Or.inr pCw_189
  | 10, _ => exact Or.inr pCw_190
  | 11, _ => exact Or.inr pCw_191
  | 12, _ => exact Or.inr pCw_192
  | 13, _ => exact Or.inr pCw_193
  | 14, _ => exact Or.inr pCw_194
  | 15, _ => exact Or.inr pCw_195
  | 16, _ => exact Or.inr pCw_196
  | 17, _ => exact Or.inl rfl
  | 18, _ => exact Or.inr pCw_198
  | 19, _ => exact Or.inr pCw_199
  | j + 20, h => exact absurd h (by omega)
theorem pCwc_200 (j : Nat) (h : j < 1) : pCwP (200 + j) := by
  match j, h with
  | 0, _ => exact Or.inr pCw_200
  | j + 1, h => exact absurd h (by omega)
theorem pCw_in {k : Nat} (h : k < 201) (hl : k ≠ 197) : pCw k ∈ lw_tbl := by
  have h1 : pCwP k := by
    by_cases h2 : k < 20
    · have e := pCwc_0 (k - 0) (by omega)
      rw [show 0 + (k - 0) = k by omega] at e
      exact e
    by_cases h22 : k < 40
    · have e := pCwc_20 (k - 20) (by omega)
      rw [show 20 + (k - 20) = k by omega] at e
      exact e
    by_cases h42 : k < 60
    · have e := pCwc_40 (k - 40) (by omega)
      rw [show 40 + (k - 40) = k by omega] at e
      exact e
    by_cases h62 : k < 80
    · have e := pCwc_60 (k - 60) (by omega)
      rw [show 60 + (k - 60) = k by omega] at e
      exact e
    by_cases h82 : k < 100
    · have e := pCwc_80 (k - 80) (by omega)
      rw [show 80 + (k - 80) = k by omega] at e
      exact e
    by_cases h102 : k < 120
    · have e := pCwc_100 (k - 100) (by omega)
      rw [show 100 + (k - 100) = k by omega] at e
      exact e
    by_cases h122 : k < 140
    · have e := pCwc_120 (k - 120) (by omega)
      rw [show 120 + (k - 120) = k by omega] at e
      exact e
    by_cases h142 : k < 160
    · have e := pCwc_140 (k - 140) (by omega)
      rw [show 140 + (k - 140) = k by omega] at e
      exact e
    by_cases h162 : k < 180
    · have e := pCwc_160 (k - 160) (by omega)
      rw [show 160 + (k - 160) = k by omega] at e
      exact e
    by_cases h182 : k < 200
    · have e := pCwc_180 (k - 180) (by omega)
      rw [show 180 + (k - 180) = k by omega] at e
      exact e
    by_cases h202 : k < 201
    · have e := pCwc_200 (k - 200) (by omega)
      rw [show 200 + (k - 200) = k by omega] at e
      exact e
    omega
  exact h1.resolve_left hl
