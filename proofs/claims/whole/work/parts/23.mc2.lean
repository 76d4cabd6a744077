set_option maxRecDepth 20000 in
theorem c_40 : kmck mt_40 in_40 347 164 = true := by decide +kernel
set_option maxRecDepth 20000 in
theorem c_41 : kmck mt_41 in_41 1334 164 = true := by decide +kernel
set_option maxRecDepth 20000 in
theorem c_42 : kmck mt_42 in_42 1269 164 = true := by decide +kernel
set_option maxRecDepth 20000 in
theorem c_43 : kmck mt_43 in_43 1265 164 = true := by decide +kernel
set_option maxRecDepth 20000 in
theorem c_44 : kmck mt_44 in_44 1277 164 = true := by decide +kernel
set_option maxRecDepth 20000 in
theorem c_45 : kmck mt_45 in_45 1294 164 = true := by decide +kernel
set_option maxRecDepth 20000 in
theorem c_46 : kmck mt_46 in_46 1286 164 = true := by decide +kernel
set_option maxRecDepth 20000 in
theorem c_47 : kmck mt_47 in_47 1323 164 = true := by decide +kernel
set_option maxRecDepth 20000 in
theorem c_48 : kmck mt_48 in_48 1331 164 = true := by decide +kernel
set_option maxRecDepth 20000 in
theorem c_49 : kmck mt_49 in_49 1327 164 = true := by decide +kernel
set_option maxRecDepth 20000 in
theorem c_50 : kmck mt_50 in_50 1758 164 = true := by decide +kernel
set_option maxRecDepth 20000 in
theorem c_51 : kmck mt_51 in_51 1315 164 = true := by decide +kernel
set_option maxRecDepth 20000 in
theorem c_52 : kmck mt_52 in_52 1310 164 = true := by decide +kernel
set_option maxRecDepth 20000 in
theorem c_53 : kmck mt_53 in_53 1319 164 = true := by decide +kernel
set_option maxRecDepth 20000 in
theorem c_54 : kmck mt_54 in_54 1306 164 = true := by decide +kernel
set_option maxRecDepth 20000 in
theorem c_55 : kmck mt_55 in_55 1351 164 = true := by decide +kernel
set_option maxRecDepth 20000 in
theorem c_56 : kmck mt_56 in_56 1380 164 = true := by decide +kernel
set_option maxRecDepth 20000 in
theorem c_57 : kmck mt_57 in_57 1374 164 = true := by decide +kernel
set_option maxRecDepth 20000 in
theorem c_58 : kmck mt_58 in_58 1383 164 = true := by decide +kernel
set_option maxRecDepth 20000 in
theorem c_59 : kmck mt_59 in_59 1355 164 = true := by decide +kernel
set_option maxRecDepth 20000 in
theorem c_60 : kmck mt_60 in_60 1371 164 = true := by decide +kernel
set_option maxRecDepth 20000 in
theorem c_61 : kmck mt_61 in_61 1359 164 = true := by decide +kernel
set_option maxRecDepth 20000 in
theorem c_62 : kmck mt_62 in_62 1363 164 = true := by decide +kernel
set_option maxRecDepth 20000 in
theorem c_63 : kmck mt_63 in_63 1367 164 = true := by decide +kernel
set_option maxRecDepth 20000 in
theorem c_64 : kmck mt_64 in_64 1302 164 = true := by decide +kernel
set_option maxRecDepth 20000 in
theorem c_65 : kmck mt_65 in_65 1347 164 = true := by decide +kernel
set_option maxRecDepth 20000 in
theorem c_66 : kmck mt_66 in_66 1343 164 = true := by decide +kernel
set_option maxRecDepth 20000 in
theorem c_67 : kmck mt_67 in_67 1387 164 = true := by decide +kernel
set_option maxRecDepth 20000 in
theorem c_68 : kmck mt_68 in_68 284 162 = true := by decide +kernel
set_option maxRecDepth 20000 in
theorem c_69 : kmck mt_69 in_69 772 162 = true := by decide +kernel
set_option maxRecDepth 20000 in
theorem c_70 : kmck mt_70 in_70 781 162 = true := by decide +kernel
set_option maxRecDepth 20000 in
theorem c_71 : kmck mt_71 in_71 786 162 = true := by decide +kernel
set_option maxRecDepth 20000 in
theorem c_72 : kmck mt_72 in_72 790 162 = true := by decide +kernel
set_option maxRecDepth 20000 in
theorem c_73 : kmck mt_73 in_73 794 162 = true := by decide +kernel
set_option maxRecDepth 20000 in
theorem c_74 : kmck mt_74 in_74 798 162 = true := by decide +kernel
set_option maxRecDepth 20000 in
theorem c_75 : kmck mt_75 in_75 803 162 = true := by decide +kernel
set_option maxRecDepth 20000 in
theorem c_76 : kmck mt_76 in_76 856 162 = true := by decide +kernel
set_option maxRecDepth 20000 in
theorem c_77 : kmck mt_77 in_77 930 162 = true := by decide +kernel
set_option maxRecDepth 20000 in
theorem c_78 : kmck mt_78 in_78 955 162 = true := by decide +kernel
set_option maxRecDepth 20000 in
theorem c_79 : kmck mt_79 in_79 959 162 = true := by decide +kernel
set_option maxRecDepth 20000 in
theorem c_80 : kmck mt_80 in_80 926 162 = true := by decide +kernel
set_option maxRecDepth 20000 in
theorem c_81 : kmck mt_81 in_81 934 162 = true := by decide +kernel
set_option maxRecDepth 20000 in
theorem c_82 : kmck mt_82 in_82 979 162 = true := by decide +kernel
set_option maxRecDepth 20000 in
theorem c_83 : kmck mt_83 in_83 987 162 = true := by decide +kernel
set_option maxRecDepth 20000 in
theorem c_84 : kmck mt_84 in_84 918 162 = true := by decide +kernel
set_option maxRecDepth 20000 in
theorem c_85 : kmck mt_85 in_85 922 162 = true := by decide +kernel
set_option maxRecDepth 20000 in
theorem c_86 : kmck mt_86 in_86 975 162 = true := by decide +kernel
set_option maxRecDepth 20000 in
theorem c_87 : kmck mt_87 in_87 983 162 = true := by decide +kernel
set_option maxRecDepth 20000 in
theorem c_88 : kmck mt_88 in_88 991 162 = true := by decide +kernel
set_option maxRecDepth 20000 in
theorem c_89 : kmck mt_89 in_89 995 162 = true := by decide +kernel
set_option maxRecDepth 20000 in
theorem c_90 : kmck mt_90 in_90 938 162 = true := by decide +kernel
set_option maxRecDepth 20000 in
theorem c_91 : kmck mt_91 in_91 947 162 = true := by decide +kernel
set_option maxRecDepth 20000 in
theorem c_92 : kmck mt_92 in_92 967 162 = true := by decide +kernel
set_option maxRecDepth 20000 in
theorem c_93 : kmck mt_93 in_93 951 162 = true := by decide +kernel
set_option maxRecDepth 20000 in
theorem c_94 : kmck mt_94 in_94 447 167 = true := by decide +kernel
set_option maxRecDepth 20000 in
theorem c_95 : kmck mt_95 in_95 452 167 = true := by decide +kernel
set_option maxRecDepth 20000 in
theorem c_96 : kmck mt_96 in_96 942 167 = true := by decide +kernel
set_option maxRecDepth 20000 in
theorem c_97 : kmck mt_97 in_97 971 167 = true := by decide +kernel
set_option maxRecDepth 20000 in
theorem c_98 : kmck mt_98 in_98 963 167 = true := by decide +kernel
set_option maxRecDepth 20000 in
theorem c_99 : kmck mt_99 in_99 1135 167 = true := by decide +kernel
set_option maxRecDepth 20000 in
theorem c_100 : kmck mt_100 in_100 1144 167 = true := by decide +kernel
set_option maxRecDepth 20000 in
theorem c_101 : kmck mt_101 in_101 1075 167 = true := by decide +kernel
set_option maxRecDepth 20000 in
theorem c_102 : kmck mt_102 in_102 1079 167 = true := by decide +kernel
set_option maxRecDepth 20000 in
theorem c_103 : kmck mt_103 in_103 410 165 = true := by decide +kernel
set_option maxRecDepth 20000 in
theorem c_104 : kmck mt_104 in_104 1441 165 = true := by decide +kernel
set_option maxRecDepth 20000 in
theorem c_105 : kmck mt_105 in_105 1654 165 = true := by decide +kernel
set_option maxRecDepth 20000 in
theorem c_106 : kmck mt_106 in_106 1472 165 = true := by decide +kernel
set_option maxRecDepth 20000 in
theorem c_107 : kmck mt_107 in_107 1454 165 = true := by decide +kernel
set_option maxRecDepth 20000 in
theorem c_108 : kmck mt_108 in_108 1458 165 = true := by decide +kernel
set_option maxRecDepth 20000 in
theorem c_109 : kmck mt_109 in_109 1462 165 = true := by decide +kernel
set_option maxRecDepth 20000 in
theorem c_110 : kmck mt_110 in_110 1466 165 = true := by decide +kernel
set_option maxRecDepth 20000 in
theorem c_111 : kmck mt_111 in_111 196 158 = true := by decide +kernel
set_option maxRecDepth 20000 in
theorem c_112 : kmck mt_112 in_112 722 158 = true := by decide +kernel
set_option maxRecDepth 20000 in
theorem c_113 : kmck mt_113 in_113 1127 158 = true := by decide +kernel
set_option maxRecDepth 20000 in
theorem c_114 : kmck mt_114 in_114 1008 158 = true := by decide +kernel
set_option maxRecDepth 20000 in
theorem c_115 : kmck mt_115 in_115 1012 158 = true := by decide +kernel
set_option maxRecDepth 20000 in
theorem c_116 : kmck mt_116 in_116 643 170 = true := by decide +kernel
set_option maxRecDepth 20000 in
theorem c_117 : kmck mt_117 in_117 695 170 = true := by decide +kernel
set_option maxRecDepth 20000 in
theorem c_118 : kmck mt_118 in_118 1017 170 = true := by decide +kernel
set_option maxRecDepth 20000 in
theorem c_119 : kmck mt_119 in_119 1666 170 = true := by decide +kernel
set_option maxRecDepth 20000 in
theorem c_120 : kmck mt_120 in_120 730 170 = true := by decide +kernel
set_option maxRecDepth 20000 in
theorem c_121 : kmck mt_121 in_121 1087 170 = true := by decide +kernel
set_option maxRecDepth 20000 in
theorem c_122 : kmck mt_122 in_122 1213 170 = true := by decide +kernel
set_option maxRecDepth 20000 in
theorem c_123 : kmck mt_123 in_123 1238 170 = true := by decide +kernel
set_option maxRecDepth 20000 in
theorem c_124 : kmck mt_124 in_124 1233 170 = true := by decide +kernel
set_option maxRecDepth 20000 in
theorem c_125 : kmck mt_125 in_125 699 170 = true := by decide +kernel
set_option maxRecDepth 20000 in
theorem c_126 : kmck mt_126 in_126 186 157 = true := by decide +kernel
