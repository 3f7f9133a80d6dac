set_option maxRecDepth 100000
theorem c_kk190 : ∃ x, c_okM c_P c_m190 x = true := ⟨[[], [], [], [], [], [], [282], [], [], [], [281], [], [], [], [], [], [], [], []], by decide +kernel⟩
theorem c_kk191 : ∃ x, c_okM c_P c_m191 x = true := ⟨[[], [], [], [], [], [], [282], [], [], [281], [], [], [], [], [], [], [], [], []], by decide +kernel⟩
theorem c_kk192 : ∃ x, c_okM c_P c_m192 x = true := ⟨[[], [], [], [], [], [], [91, 542, 543, 544, 545], [], [], [], [], [], [], []], by decide +kernel⟩
theorem c_kk193 : ∃ x, c_okM c_P c_m193 x = true := ⟨[[], [], [], [], [], [91, 652, 653, 654, 655], [], [], [], [], [], [], [], [], []], by decide +kernel⟩
theorem c_kk194 : ∃ x, c_okM c_P c_m194 x = true := ⟨[[], [], [], [], [], [91, 676, 677, 678, 679], [], [], [], [], [], [], [], [], []], by decide +kernel⟩
theorem c_kk195 : ∃ x, c_okM c_P c_m195 x = true := ⟨[[], [], [], [], [91, 683, 684, 685, 686], [], [], [], [], [], [], []], by decide +kernel⟩
theorem c_kk196 : ∃ x, c_okM c_P c_m196 x = true := ⟨[[], [], [], [], [91, 691, 692, 693, 694], [], [], [], [], [], [], [], [], []], by decide +kernel⟩
theorem c_kk197 : ∃ x, c_okM c_P c_m197 x = true := ⟨[[], [], [], [], [91, 734, 735, 736, 737], [], [], [], [], [], [], [], [], []], by decide +kernel⟩
theorem c_kk198 : ∃ x, c_okM c_P c_m198 x = true := ⟨[[], [], [], [], [], [91, 741, 742, 743, 744], [], [], [], [], [], [], []], by decide +kernel⟩
theorem c_kk199 : ∃ x, c_okM c_P c_m199 x = true := ⟨[[], [], [], [], [], [91, 749, 750, 751, 752], [], [], [], [], [], [], [], [], []], by decide +kernel⟩
theorem c_kk200 : ∃ x, c_okM c_P c_m200 x = true := ⟨[[], [], [], [91, 780, 781, 782, 783], [], [], [], [], [], [], []], by decide +kernel⟩
theorem c_kk201 : ∃ x, c_okM c_P c_m201 x = true := ⟨[[], [], [], [], [], [91, 795, 796, 797, 798], [], [], [], [], [], [], [], [], [], [], [], []], by decide +kernel⟩
theorem c_kk202 : ∃ x, c_okM c_P c_m202 x = true := ⟨[[], [], [], [], [91, 807, 808, 809, 810], [], [], [], [], [], [], [], [], [], [], []], by decide +kernel⟩
theorem c_kk203 : ∃ x, c_okM c_P c_m203 x = true := ⟨[[], [], [], [], [91, 816, 817, 818, 819], [], [], [], [], [], [], [], [], []], by decide +kernel⟩
theorem c_kk204 : ∃ x, c_okM c_P c_m204 x = true := ⟨[[], [], [], [91, 834, 835, 836, 837], [], [], [], [], [], [], []], by decide +kernel⟩
theorem c_kk205 : ∃ x, c_okM c_P c_m205 x = true := ⟨[[], [], [], [], [91, 841, 842, 843, 844], [], [], [], [], [], [], [], [], []], by decide +kernel⟩
theorem c_kk206 : ∃ x, c_okM c_P c_m206 x = true := ⟨[[], [], [], [], [91, 849, 850, 851, 852], [], [], [], [], [], [], [], [], []], by decide +kernel⟩
theorem c_kk207 : ∃ x, c_okM c_P c_m207 x = true := ⟨[[], [], [], [], [91, 856, 857, 858, 859], [], [], [], [], [], [], [], [], []], by decide +kernel⟩
theorem c_kk208 : ∃ x, c_okM c_P c_m208 x = true := ⟨[[], [], [], [], [], [91, 867, 868, 869, 870], [], [], [], [], [], [], [], [], [], [], []], by decide +kernel⟩
theorem c_kk209 : ∃ x, c_okM c_P c_m209 x = true := ⟨[[], [], [], [], [], [91, 879, 880, 881, 882], [], [], [], [], [], [], [], [], [], [], []], by decide +kernel⟩
theorem c_kk210 : ∃ x, c_okM c_P c_m210 x = true := ⟨[[], [], [], [], [], [], [], [], [91, 890, 891, 892, 893], [], [], [], [], [], [], []], by decide +kernel⟩
theorem c_kk211 : ∃ x, c_okM c_P c_m211 x = true := ⟨[[], [], [], [], [], [], [91, 898, 899, 900, 901], [], [], [], [], [], [], []], by decide +kernel⟩
theorem c_kk212 : ∃ x, c_okM c_P c_m212 x = true := ⟨[[], [], [], [], [], [91, 924, 925, 926, 927], [], [], [], [], [], [], [], [], []], by decide +kernel⟩
theorem c_kk213 : ∃ x, c_okM c_P c_m213 x = true := ⟨[[], [], [], [], [], [91, 951, 952, 953, 954], [], [], [], [], [], [], []], by decide +kernel⟩
theorem c_kk214 : ∃ x, c_okM c_P c_m214 x = true := ⟨[[], [], [], [], [], [91, 978, 979, 980, 981], [], [], [], [], [], [], []], by decide +kernel⟩
theorem c_kk215 : ∃ x, c_okM c_P c_m215 x = true := ⟨[[], [], [], [], [91, 994, 995, 996, 997], [], [], [], [], [], [], [], [], []], by decide +kernel⟩
theorem c_kk216 : ∃ x, c_okM c_P c_m216 x = true := ⟨[[], [], [], [], [], [91, 1002, 1003, 1004, 1005], [], [], [], [], [], [], [], [], [], []], by decide +kernel⟩
theorem c_kk217 : ∃ x, c_okM c_P c_m217 x = true := ⟨[[], [], [], [], [91, 1012, 1013, 1014, 1015], [], [], [], [], [], [], [], [], [], []], by decide +kernel⟩
theorem c_kk218 : ∃ x, c_okM c_P c_m218 x = true := ⟨[[], [], [], [], [91, 1028, 1029, 1030, 1031], [], [], [], [], [], [], [], [], []], by decide +kernel⟩
theorem c_kk219 : ∃ x, c_okM c_P c_m219 x = true := ⟨[[], [], [], [], [91, 1040, 1041, 1042, 1043], [], [], [], [], [], [], [], [], []], by decide +kernel⟩
theorem c_kk220 : ∃ x, c_okM c_P c_m220 x = true := ⟨[[], [], [], [], [91, 1052, 1053, 1054, 1055], [], [], [], [], [], [], []], by decide +kernel⟩
theorem c_kk221 : ∃ x, c_okM c_P c_m221 x = true := ⟨[[], [], [], [], [], [91, 1076, 1077, 1078, 1079], [], [], [], [], [], [], [], [], []], by decide +kernel⟩
theorem c_kk222 : ∃ x, c_okM c_P c_m222 x = true := ⟨[[], [], [], [], [], [91, 1088, 1089, 1090, 1091], [], [], [], [], [], [], [], [], []], by decide +kernel⟩
theorem c_kk223 : ∃ x, c_okM c_P c_m223 x = true := ⟨[[], [], [], [], [], [], [91, 1121, 1122, 1123, 1124], [], [], [], [], [], [], [], [], []], by decide +kernel⟩
theorem c_kk224 : ∃ x, c_okM c_P c_m224 x = true := ⟨[[], [], [], [], [], [91, 1132, 1133, 1134, 1135], [], [], [], [], [], [], []], by decide +kernel⟩
theorem c_kk225 : ∃ x, c_okM c_P c_m225 x = true := ⟨[[], [], [], [91, 1154, 1155, 1156, 1157], [], [], [], [], [], [], []], by decide +kernel⟩
theorem c_kk226 : ∃ x, c_okM c_P c_m226 x = true := ⟨[[], [128, 1741, 1742, 0, 1743], [], [], [1744, 1746, 1745, 128], [], [1747], []], by decide +kernel⟩
theorem c_kk227 : ∃ x, c_okM c_P c_m227 x = true := ⟨[[], [], [], [], [], [], [], []], by decide +kernel⟩
theorem c_kk228 : ∃ x, c_okM c_P c_m228 x = true := ⟨[[], [], [], [], [1022], [], [], [], [], [1023], [], [], [], [], [1023], [], [], [], [], [], [], [], [], [1024], [], [], [], [], [], [], [], [], [], [], [], [], [], [], [], [], [], []], by decide +kernel⟩
theorem c_kk229 : ∃ x, c_okM c_P c_m229 x = true := ⟨[[], [1478], []], by decide +kernel⟩
theorem c_kk230 : ∃ x, c_okM c_P c_m230 x = true := ⟨[[], [], [], [], [1465], [], [1467], [], [], [], [], [], [], [], []], by decide +kernel⟩
theorem c_kk231 : ∃ x, c_okM c_P c_m231 x = true := ⟨[[], [], [], [], [1115], [], [], [], [], [1116], [], [], [], [], [1116], [], [], [], [], [], [], [], [], [1117], [], [], [], [], [], [], [], [], [], [], [], [], [], [], [], [], [], [], [], [], [], [], [], [], []], by decide +kernel⟩
theorem c_kk232 : ∃ x, c_okM c_P c_m232 x = true := ⟨[[], [], [], [], [], [], [], [], [], [], [], [], [], [], [], []], by decide +kernel⟩
theorem c_kk233 : ∃ x, c_okM c_P c_m233 x = true := ⟨[[], [1178, 136, 137], []], by decide +kernel⟩
theorem c_kk234 : ∃ x, c_okM c_P c_m234 x = true := ⟨[[], [105, 1175, 1176, 0, 1177], [], [], [1185], []], by decide +kernel⟩
theorem c_kk235 : ∃ x, c_okM c_P c_m235 x = true := ⟨[[], [106, 1172, 1173, 0, 1174], [], [1179], [1181], []], by decide +kernel⟩
theorem c_kk236 : ∃ x, c_okM c_P c_m236 x = true := ⟨[[], [], [1188, 1187], [], [], [1188, 1187], [], [], [], [1181], [], [1184], [107, 1320, 1322, 76, 1323], [], []], by decide +kernel⟩
theorem c_kk237 : ∃ x, c_okM c_P c_m237 x = true := ⟨[[], [], [], [], [], [107, 1324, 1326, 77, 1327], [], [], [], [], [1792, 1765], [], [], [], [], [1184], []], by decide +kernel⟩
theorem c_kk238 : ∃ x, c_okM c_P c_m238 x = true := ⟨[[], [], [1188, 1187], [], [], [1188, 1187], [], [1181], [], [], [1184], [], [], [], [], [1184], [], [], [], [], [], [], [], [1792, 1765], [], [], []], by decide +kernel⟩
theorem c_kk239 : ∃ x, c_okM c_P c_m239 x = true := ⟨[[], [1181], [], [], []], by decide +kernel⟩
theorem c_kk240 : ∃ x, c_okM c_P c_m240 x = true := ⟨[[], [], [1188, 1187], [], [], [1188, 1187], [], [1184], [], [], [], [], [], [], [], [], [], [], [], [], [], [], [], [1399, 1378, 1377, 117, 1792, 1765], [], [], [], [], [1184], [], [1792, 1765], []], by decide +kernel⟩
theorem c_kk241 : ∃ x, c_okM c_P c_m241 x = true := ⟨[[], [], [1184], [118, 1389, 1390, 0, 1391], [], [], [], [107, 1420, 1421, 1422, 1423], []], by decide +kernel⟩
theorem c_kk242 : ∃ x, c_okM c_P c_m242 x = true := ⟨[[], [], [1184], [], [], [107, 1328, 1330, 78, 1331], []], by decide +kernel⟩
theorem c_kk243 : ∃ x, c_okM c_P c_m243 x = true := ⟨[[], [1181], [], [], [], [], [], [1181], [1179], [], [], [], [], [], [], [], [], [116, 1332, 1333, 0, 1334], [], [], [], [1181], [], [103, 1340, 1341, 0, 1342], [], [1181], [], [], [], [], [1379, 323, 102, 324], [1380], [], [1181], []], by decide +kernel⟩
theorem c_kk244 : ∃ x, c_okM c_P c_m244 x = true := ⟨[[], [1184], [], [], [], [], []], by decide +kernel⟩
theorem c_kk245 : ∃ x, c_okM c_P c_m245 x = true := ⟨[[], [], [1184], [118, 1389, 1390, 0, 1391], [], [], [1181], [], [], [], [], [], [], [], [], [107, 1395, 1397, 79, 1398], [], []], by decide +kernel⟩
theorem c_kk246 : ∃ x, c_okM c_P c_m246 x = true := ⟨[[], [1184], []], by decide +kernel⟩
theorem c_kk247 : ∃ x, c_okM c_P c_m247 x = true := ⟨[[], [], [], [], [], [1565, 1305, 1306, 1307, 1308, 1309], [1566], [], [], [172], [], [], [], [], [], [], [], [], [1375, 320, 102, 321], [1376, 1378, 1377, 117, 1792, 1765], [], []], by decide +kernel⟩
theorem c_kk248 : ∃ x, c_okM c_P c_m248 x = true := ⟨[[], [], [], [1343, 1791, 1790, 1344, 1368], [103, 1369, 1370, 0, 1371], []], by decide +kernel⟩
