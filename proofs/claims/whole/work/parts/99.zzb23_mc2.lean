theorem c_40 : kmck mt_40 in_40 347 164 = true := by decide +kernel
set_option maxRecDepth 20000 in
theorem r_40_0 : kmr mt_40 in_40 0 48 = true := by decide +kernel
set_option maxRecDepth 20000 in
theorem r_40_48 : kmr mt_40 in_40 48 32 = true := by decide +kernel
theorem q_40 : kmr mt_40 in_40 0 (16 * mt_40.2.2.2.length) = true := kmr_as (kmr_join (r_40_0) r_40_48) (by decide +kernel)
theorem c_41 : kmck mt_41 in_41 1334 164 = true := by decide +kernel
set_option maxRecDepth 20000 in
theorem r_41_0 : kmr mt_41 in_41 0 16 = true := by decide +kernel
theorem q_41 : kmr mt_41 in_41 0 (16 * mt_41.2.2.2.length) = true := kmr_as (r_41_0) (by decide +kernel)
theorem c_42 : kmck mt_42 in_42 1269 164 = true := by decide +kernel
set_option maxRecDepth 20000 in
theorem r_42_0 : kmr mt_42 in_42 0 16 = true := by decide +kernel
theorem q_42 : kmr mt_42 in_42 0 (16 * mt_42.2.2.2.length) = true := kmr_as (r_42_0) (by decide +kernel)
theorem c_43 : kmck mt_43 in_43 1265 164 = true := by decide +kernel
set_option maxRecDepth 20000 in
theorem r_43_0 : kmr mt_43 in_43 0 48 = true := by decide +kernel
set_option maxRecDepth 20000 in
theorem r_43_48 : kmr mt_43 in_43 48 32 = true := by decide +kernel
theorem q_43 : kmr mt_43 in_43 0 (16 * mt_43.2.2.2.length) = true := kmr_as (kmr_join (r_43_0) r_43_48) (by decide +kernel)
theorem c_44 : kmck mt_44 in_44 1277 164 = true := by decide +kernel
set_option maxRecDepth 20000 in
theorem r_44_0 : kmr mt_44 in_44 0 32 = true := by decide +kernel
theorem q_44 : kmr mt_44 in_44 0 (16 * mt_44.2.2.2.length) = true := kmr_as (r_44_0) (by decide +kernel)
theorem c_45 : kmck mt_45 in_45 1294 164 = true := by decide +kernel
set_option maxRecDepth 20000 in
theorem r_45_0 : kmr mt_45 in_45 0 32 = true := by decide +kernel
theorem q_45 : kmr mt_45 in_45 0 (16 * mt_45.2.2.2.length) = true := kmr_as (r_45_0) (by decide +kernel)
theorem c_46 : kmck mt_46 in_46 1286 164 = true := by decide +kernel
set_option maxRecDepth 20000 in
theorem r_46_0 : kmr mt_46 in_46 0 16 = true := by decide +kernel
theorem q_46 : kmr mt_46 in_46 0 (16 * mt_46.2.2.2.length) = true := kmr_as (r_46_0) (by decide +kernel)
theorem c_47 : kmck mt_47 in_47 1323 164 = true := by decide +kernel
set_option maxRecDepth 20000 in
theorem r_47_0 : kmr mt_47 in_47 0 48 = true := by decide +kernel
theorem q_47 : kmr mt_47 in_47 0 (16 * mt_47.2.2.2.length) = true := kmr_as (r_47_0) (by decide +kernel)
theorem c_48 : kmck mt_48 in_48 1331 164 = true := by decide +kernel
set_option maxRecDepth 20000 in
theorem r_48_0 : kmr mt_48 in_48 0 32 = true := by decide +kernel
theorem q_48 : kmr mt_48 in_48 0 (16 * mt_48.2.2.2.length) = true := kmr_as (r_48_0) (by decide +kernel)
theorem c_49 : kmck mt_49 in_49 1327 164 = true := by decide +kernel
set_option maxRecDepth 20000 in
theorem r_49_0 : kmr mt_49 in_49 0 32 = true := by decide +kernel
theorem q_49 : kmr mt_49 in_49 0 (16 * mt_49.2.2.2.length) = true := kmr_as (r_49_0) (by decide +kernel)
theorem c_50 : kmck mt_50 in_50 1758 164 = true := by decide +kernel
set_option maxRecDepth 20000 in
theorem r_50_0 : kmr mt_50 in_50 0 16 = true := by decide +kernel
theorem q_50 : kmr mt_50 in_50 0 (16 * mt_50.2.2.2.length) = true := kmr_as (r_50_0) (by decide +kernel)
theorem c_51 : kmck mt_51 in_51 1315 164 = true := by decide +kernel
set_option maxRecDepth 20000 in
theorem r_51_0 : kmr mt_51 in_51 0 48 = true := by decide +kernel
set_option maxRecDepth 20000 in
theorem r_51_48 : kmr mt_51 in_51 48 16 = true := by decide +kernel
theorem q_51 : kmr mt_51 in_51 0 (16 * mt_51.2.2.2.length) = true := kmr_as (kmr_join (r_51_0) r_51_48) (by decide +kernel)
theorem c_52 : kmck mt_52 in_52 1310 164 = true := by decide +kernel
set_option maxRecDepth 20000 in
theorem r_52_0 : kmr mt_52 in_52 0 16 = true := by decide +kernel
theorem q_52 : kmr mt_52 in_52 0 (16 * mt_52.2.2.2.length) = true := kmr_as (r_52_0) (by decide +kernel)
theorem c_53 : kmck mt_53 in_53 1319 164 = true := by decide +kernel
set_option maxRecDepth 20000 in
theorem r_53_0 : kmr mt_53 in_53 0 48 = true := by decide +kernel
set_option maxRecDepth 20000 in
theorem r_53_48 : kmr mt_53 in_53 48 16 = true := by decide +kernel
theorem q_53 : kmr mt_53 in_53 0 (16 * mt_53.2.2.2.length) = true := kmr_as (kmr_join (r_53_0) r_53_48) (by decide +kernel)
theorem c_54 : kmck mt_54 in_54 1306 164 = true := by decide +kernel
set_option maxRecDepth 20000 in
theorem r_54_0 : kmr mt_54 in_54 0 32 = true := by decide +kernel
theorem q_54 : kmr mt_54 in_54 0 (16 * mt_54.2.2.2.length) = true := kmr_as (r_54_0) (by decide +kernel)
theorem c_55 : kmck mt_55 in_55 1351 164 = true := by decide +kernel
set_option maxRecDepth 20000 in
theorem r_55_0 : kmr mt_55 in_55 0 32 = true := by decide +kernel
theorem q_55 : kmr mt_55 in_55 0 (16 * mt_55.2.2.2.length) = true := kmr_as (r_55_0) (by decide +kernel)
theorem c_56 : kmck mt_56 in_56 1380 164 = true := by decide +kernel
set_option maxRecDepth 20000 in
theorem r_56_0 : kmr mt_56 in_56 0 16 = true := by decide +kernel
theorem q_56 : kmr mt_56 in_56 0 (16 * mt_56.2.2.2.length) = true := kmr_as (r_56_0) (by decide +kernel)
theorem c_57 : kmck mt_57 in_57 1374 164 = true := by decide +kernel
set_option maxRecDepth 20000 in
theorem r_57_0 : kmr mt_57 in_57 0 16 = true := by decide +kernel
theorem q_57 : kmr mt_57 in_57 0 (16 * mt_57.2.2.2.length) = true := kmr_as (r_57_0) (by decide +kernel)
theorem c_58 : kmck mt_58 in_58 1383 164 = true := by decide +kernel
set_option maxRecDepth 20000 in
theorem r_58_0 : kmr mt_58 in_58 0 16 = true := by decide +kernel
theorem q_58 : kmr mt_58 in_58 0 (16 * mt_58.2.2.2.length) = true := kmr_as (r_58_0) (by decide +kernel)
theorem c_59 : kmck mt_59 in_59 1355 164 = true := by decide +kernel
set_option maxRecDepth 20000 in
theorem r_59_0 : kmr mt_59 in_59 0 48 = true := by decide +kernel
set_option maxRecDepth 20000 in
theorem r_59_48 : kmr mt_59 in_59 48 16 = true := by decide +kernel
theorem q_59 : kmr mt_59 in_59 0 (16 * mt_59.2.2.2.length) = true := kmr_as (kmr_join (r_59_0) r_59_48) (by decide +kernel)
theorem c_60 : kmck mt_60 in_60 1371 164 = true := by decide +kernel
set_option maxRecDepth 20000 in
theorem r_60_0 : kmr mt_60 in_60 0 48 = true := by decide +kernel
set_option maxRecDepth 20000 in
theorem r_60_48 : kmr mt_60 in_60 48 16 = true := by decide +kernel
theorem q_60 : kmr mt_60 in_60 0 (16 * mt_60.2.2.2.length) = true := kmr_as (kmr_join (r_60_0) r_60_48) (by decide +kernel)
theorem c_61 : kmck mt_61 in_61 1359 164 = true := by decide +kernel
set_option maxRecDepth 20000 in
theorem r_61_0 : kmr mt_61 in_61 0 48 = true := by decide +kernel
theorem q_61 : kmr mt_61 in_61 0 (16 * mt_61.2.2.2.length) = true := kmr_as (r_61_0) (by decide +kernel)
theorem c_62 : kmck mt_62 in_62 1363 164 = true := by decide +kernel
set_option maxRecDepth 20000 in
theorem r_62_0 : kmr mt_62 in_62 0 48 = true := by decide +kernel
set_option maxRecDepth 20000 in
theorem r_62_48 : kmr mt_62 in_62 48 32 = true := by decide +kernel
theorem q_62 : kmr mt_62 in_62 0 (16 * mt_62.2.2.2.length) = true := kmr_as (kmr_join (r_62_0) r_62_48) (by decide +kernel)
theorem c_63 : kmck mt_63 in_63 1367 164 = true := by decide +kernel
set_option maxRecDepth 20000 in
theorem r_63_0 : kmr mt_63 in_63 0 32 = true := by decide +kernel
theorem q_63 : kmr mt_63 in_63 0 (16 * mt_63.2.2.2.length) = true := kmr_as (r_63_0) (by decide +kernel)
theorem c_64 : kmck mt_64 in_64 1302 164 = true := by decide +kernel
set_option maxRecDepth 20000 in
theorem r_64_0 : kmr mt_64 in_64 0 32 = true := by decide +kernel
theorem q_64 : kmr mt_64 in_64 0 (16 * mt_64.2.2.2.length) = true := kmr_as (r_64_0) (by decide +kernel)
theorem c_65 : kmck mt_65 in_65 1347 164 = true := by decide +kernel
set_option maxRecDepth 20000 in
theorem r_65_0 : kmr mt_65 in_65 0 32 = true := by decide +kernel
theorem q_65 : kmr mt_65 in_65 0 (16 * mt_65.2.2.2.length) = true := kmr_as (r_65_0) (by decide +kernel)
theorem c_66 : kmck mt_66 in_66 1343 164 = true := by decide +kernel
set_option maxRecDepth 20000 in
theorem r_66_0 : kmr mt_66 in_66 0 32 = true := by decide +kernel
theorem q_66 : kmr mt_66 in_66 0 (16 * mt_66.2.2.2.length) = true := kmr_as (r_66_0) (by decide +kernel)
theorem c_67 : kmck mt_67 in_67 1387 164 = true := by decide +kernel
set_option maxRecDepth 20000 in
theorem r_67_0 : kmr mt_67 in_67 0 32 = true := by decide +kernel
theorem q_67 : kmr mt_67 in_67 0 (16 * mt_67.2.2.2.length) = true := kmr_as (r_67_0) (by decide +kernel)
theorem c_68 : kmck mt_68 in_68 284 162 = true := by decide +kernel
set_option maxRecDepth 20000 in
theorem r_68_0 : kmr mt_68 in_68 0 48 = true := by decide +kernel
theorem q_68 : kmr mt_68 in_68 0 (16 * mt_68.2.2.2.length) = true := kmr_as (r_68_0) (by decide +kernel)
theorem c_69 : kmck mt_69 in_69 772 162 = true := by decide +kernel
set_option maxRecDepth 20000 in
theorem r_69_0 : kmr mt_69 in_69 0 48 = true := by decide +kernel
theorem q_69 : kmr mt_69 in_69 0 (16 * mt_69.2.2.2.length) = true := kmr_as (r_69_0) (by decide +kernel)
theorem c_70 : kmck mt_70 in_70 781 162 = true := by decide +kernel
set_option maxRecDepth 20000 in
theorem r_70_0 : kmr mt_70 in_70 0 48 = true := by decide +kernel
theorem q_70 : kmr mt_70 in_70 0 (16 * mt_70.2.2.2.length) = true := kmr_as (r_70_0) (by decide +kernel)
theorem c_71 : kmck mt_71 in_71 786 162 = true := by decide +kernel
set_option maxRecDepth 20000 in
theorem r_71_0 : kmr mt_71 in_71 0 48 = true := by decide +kernel
set_option maxRecDepth 20000 in
theorem r_71_48 : kmr mt_71 in_71 48 32 = true := by decide +kernel
theorem q_71 : kmr mt_71 in_71 0 (16 * mt_71.2.2.2.length) = true := kmr_as (kmr_join (r_71_0) r_71_48) (by decide +kernel)
theorem c_72 : kmck mt_72 in_72 790 162 = true := by decide +kernel
set_option maxRecDepth 20000 in
theorem r_72_0 : kmr mt_72 in_72 0 48 = true := by decide +kernel
theorem q_72 : kmr mt_72 in_72 0 (16 * mt_72.2.2.2.length) = true := kmr_as (r_72_0) (by decide +kernel)
theorem c_73 : kmck mt_73 in_73 794 162 = true := by decide +kernel
set_option maxRecDepth 20000 in
theorem r_73_0 : kmr mt_73 in_73 0 32 = true := by decide +kernel
theorem q_73 : kmr mt_73 in_73 0 (16 * mt_73.2.2.2.length) = true := kmr_as (r_73_0) (by decide +kernel)
theorem c_74 : kmck mt_74 in_74 798 162 = true := by decide +kernel
set_option maxRecDepth 20000 in
theorem r_74_0 : kmr mt_74 in_74 0 48 = true := by decide +kernel
set_option maxRecDepth 20000 in
theorem r_74_48 : kmr mt_74 in_74 48 16 = true := by decide +kernel
theorem q_74 : kmr mt_74 in_74 0 (16 * mt_74.2.2.2.length) = true := kmr_as (kmr_join (r_74_0) r_74_48) (by decide +kernel)
theorem c_75 : kmck mt_75 in_75 803 162 = true := by decide +kernel
set_option maxRecDepth 20000 in
theorem r_75_0 : kmr mt_75 in_75 0 48 = true := by decide +kernel
set_option maxRecDepth 20000 in
theorem r_75_48 : kmr mt_75 in_75 48 16 = true := by decide +kernel
theorem q_75 : kmr mt_75 in_75 0 (16 * mt_75.2.2.2.length) = true := kmr_as (kmr_join (r_75_0) r_75_48) (by decide +kernel)
theorem c_76 : kmck mt_76 in_76 856 162 = true := by decide +kernel
set_option maxRecDepth 20000 in
theorem r_76_0 : kmr mt_76 in_76 0 48 = true := by decide +kernel
theorem q_76 : kmr mt_76 in_76 0 (16 * mt_76.2.2.2.length) = true := kmr_as (r_76_0) (by decide +kernel)
theorem c_77 : kmck mt_77 in_77 930 162 = true := by decide +kernel
set_option maxRecDepth 20000 in
theorem r_77_0 : kmr mt_77 in_77 0 32 = true := by decide +kernel
theorem q_77 : kmr mt_77 in_77 0 (16 * mt_77.2.2.2.length) = true := kmr_as (r_77_0) (by decide +kernel)
theorem c_78 : kmck mt_78 in_78 955 162 = true := by decide +kernel
set_option maxRecDepth 20000 in
theorem r_78_0 : kmr mt_78 in_78 0 16 = true := by decide +kernel
theorem q_78 : kmr mt_78 in_78 0 (16 * mt_78.2.2.2.length) = true := kmr_as (r_78_0) (by decide +kernel)
theorem c_79 : kmck mt_79 in_79 959 162 = true := by decide +kernel
set_option maxRecDepth 20000 in
theorem r_79_0 : kmr mt_79 in_79 0 16 = true := by decide +kernel
theorem q_79 : kmr mt_79 in_79 0 (16 * mt_79.2.2.2.length) = true := kmr_as (r_79_0) (by decide +kernel)
theorem c_80 : kmck mt_80 in_80 926 162 = true := by decide +kernel
set_option maxRecDepth 20000 in
theorem r_80_0 : kmr mt_80 in_80 0 16 = true := by decide +kernel
theorem q_80 : kmr mt_80 in_80 0 (16 * mt_80.2.2.2.length) = true := kmr_as (r_80_0) (by decide +kernel)
theorem c_81 : kmck mt_81 in_81 934 162 = true := by decide +kernel
set_option maxRecDepth 20000 in
theorem r_81_0 : kmr mt_81 in_81 0 16 = true := by decide +kernel
theorem q_81 : kmr mt_81 in_81 0 (16 * mt_81.2.2.2.length) = true := kmr_as (r_81_0) (by decide +kernel)
theorem c_82 : kmck mt_82 in_82 979 162 = true := by decide +kernel
set_option maxRecDepth 20000 in
theorem r_82_0 : kmr mt_82 in_82 0 32 = true := by decide +kernel
theorem q_82 : kmr mt_82 in_82 0 (16 * mt_82.2.2.2.length) = true := kmr_as (r_82_0) (by decide +kernel)
theorem c_83 : kmck mt_83 in_83 987 162 = true := by decide +kernel
set_option maxRecDepth 20000 in
theorem r_83_0 : kmr mt_83 in_83 0 32 = true := by decide +kernel
theorem q_83 : kmr mt_83 in_83 0 (16 * mt_83.2.2.2.length) = true := kmr_as (r_83_0) (by decide +kernel)
theorem c_84 : kmck mt_84 in_84 918 162 = true := by decide +kernel
set_option maxRecDepth 20000 in
theorem r_84_0 : kmr mt_84 in_84 0 48 = true := by decide +kernel
set_option maxRecDepth 20000 in
theorem r_84_48 : kmr mt_84 in_84 48 32 = true := by decide +kernel
theorem q_84 : kmr mt_84 in_84 0 (16 * mt_84.2.2.2.length) = true := kmr_as (kmr_join (r_84_0) r_84_48) (by decide +kernel)
theorem c_85 : kmck mt_85 in_85 922 162 = true := by decide +kernel
set_option maxRecDepth 20000 in
theorem r_85_0 : kmr mt_85 in_85 0 32 = true := by decide +kernel
theorem q_85 : kmr mt_85 in_85 0 (16 * mt_85.2.2.2.length) = true := kmr_as (r_85_0) (by decide +kernel)
theorem c_86 : kmck mt_86 in_86 975 162 = true := by decide +kernel
set_option maxRecDepth 20000 in
theorem r_86_0 : kmr mt_86 in_86 0 48 = true := by decide +kernel
theorem q_86 : kmr mt_86 in_86 0 (16 * mt_86.2.2.2.length) = true := kmr_as (r_86_0) (by decide +kernel)
theorem c_87 : kmck mt_87 in_87 983 162 = true := by decide +kernel
set_option maxRecDepth 20000 in
theorem r_87_0 : kmr mt_87 in_87 0 16 = true := by decide +kernel
theorem q_87 : kmr mt_87 in_87 0 (16 * mt_87.2.2.2.length) = true := kmr_as (r_87_0) (by decide +kernel)
theorem c_88 : kmck mt_88 in_88 991 162 = true := by decide +kernel
set_option maxRecDepth 20000 in
theorem r_88_0 : kmr mt_88 in_88 0 16 = true := by decide +kernel
theorem q_88 : kmr mt_88 in_88 0 (16 * mt_88.2.2.2.length) = true := kmr_as (r_88_0) (by decide +kernel)
theorem c_89 : kmck mt_89 in_89 995 162 = true := by decide +kernel
set_option maxRecDepth 20000 in
theorem r_89_0 : kmr mt_89 in_89 0 16 = true := by decide +kernel
theorem q_89 : kmr mt_89 in_89 0 (16 * mt_89.2.2.2.length) = true := kmr_as (r_89_0) (by decide +kernel)
theorem c_90 : kmck mt_90 in_90 938 162 = true := by decide +kernel
set_option maxRecDepth 20000 in
theorem r_90_0 : kmr mt_90 in_90 0 16 = true := by decide +kernel
theorem q_90 : kmr mt_90 in_90 0 (16 * mt_90.2.2.2.length) = true := kmr_as (r_90_0) (by decide +kernel)
theorem c_91 : kmck mt_91 in_91 947 162 = true := by decide +kernel
set_option maxRecDepth 20000 in
theorem r_91_0 : kmr mt_91 in_91 0 48 = true := by decide +kernel
set_option maxRecDepth 20000 in
theorem r_91_48 : kmr mt_91 in_91 48 16 = true := by decide +kernel
theorem q_91 : kmr mt_91 in_91 0 (16 * mt_91.2.2.2.length) = true := kmr_as (kmr_join (r_91_0) r_91_48) (by decide +kernel)
theorem c_92 : kmck mt_92 in_92 967 162 = true := by decide +kernel
set_option maxRecDepth 20000 in
theorem r_92_0 : kmr mt_92 in_92 0 48 = true := by decide +kernel
theorem q_92 : kmr mt_92 in_92 0 (16 * mt_92.2.2.2.length) = true := kmr_as (r_92_0) (by decide +kernel)
theorem c_93 : kmck mt_93 in_93 951 162 = true := by decide +kernel
set_option maxRecDepth 20000 in
theorem r_93_0 : kmr mt_93 in_93 0 48 = true := by decide +kernel
set_option maxRecDepth 20000 in
theorem r_93_48 : kmr mt_93 in_93 48 32 = true := by decide +kernel
theorem q_93 : kmr mt_93 in_93 0 (16 * mt_93.2.2.2.length) = true := kmr_as (kmr_join (r_93_0) r_93_48) (by decide +kernel)
theorem c_94 : kmck mt_94 in_94 447 167 = true := by decide +kernel
set_option maxRecDepth 20000 in
theorem r_94_0 : kmr mt_94 in_94 0 32 = true := by decide +kernel
theorem q_94 : kmr mt_94 in_94 0 (16 * mt_94.2.2.2.length) = true := kmr_as (r_94_0) (by decide +kernel)
theorem c_95 : kmck mt_95 in_95 452 167 = true := by decide +kernel
set_option maxRecDepth 20000 in
theorem r_95_0 : kmr mt_95 in_95 0 32 = true := by decide +kernel
theorem q_95 : kmr mt_95 in_95 0 (16 * mt_95.2.2.2.length) = true := kmr_as (r_95_0) (by decide +kernel)
theorem c_96 : kmck mt_96 in_96 942 167 = true := by decide +kernel
set_option maxRecDepth 20000 in
theorem r_96_0 : kmr mt_96 in_96 0 16 = true := by decide +kernel
theorem q_96 : kmr mt_96 in_96 0 (16 * mt_96.2.2.2.length) = true := kmr_as (r_96_0) (by decide +kernel)
theorem c_97 : kmck mt_97 in_97 971 167 = true := by decide +kernel
set_option maxRecDepth 20000 in
theorem r_97_0 : kmr mt_97 in_97 0 16 = true := by decide +kernel
theorem q_97 : kmr mt_97 in_97 0 (16 * mt_97.2.2.2.length) = true := kmr_as (r_97_0) (by decide +kernel)
theorem c_98 : kmck mt_98 in_98 963 167 = true := by decide +kernel
set_option maxRecDepth 20000 in
theorem r_98_0 : kmr mt_98 in_98 0 32 = true := by decide +kernel
theorem q_98 : kmr mt_98 in_98 0 (16 * mt_98.2.2.2.length) = true := kmr_as (r_98_0) (by decide +kernel)
theorem c_99 : kmck mt_99 in_99 1135 167 = true := by decide +kernel
set_option maxRecDepth 20000 in
theorem r_99_0 : kmr mt_99 in_99 0 32 = true := by decide +kernel
theorem q_99 : kmr mt_99 in_99 0 (16 * mt_99.2.2.2.length) = true := kmr_as (r_99_0) (by decide +kernel)
theorem c_100 : kmck mt_100 in_100 1144 167 = true := by decide +kernel
set_option maxRecDepth 20000 in
theorem r_100_0 : kmr mt_100 in_100 0 32 = true := by decide +kernel
theorem q_100 : kmr mt_100 in_100 0 (16 * mt_100.2.2.2.length) = true := kmr_as (r_100_0) (by decide +kernel)
theorem c_101 : kmck mt_101 in_101 1075 167 = true := by decide +kernel
set_option maxRecDepth 20000 in
theorem r_101_0 : kmr mt_101 in_101 0 48 = true := by decide +kernel
set_option maxRecDepth 20000 in
theorem r_101_48 : kmr mt_101 in_101 48 48 = true := by decide +kernel
theorem q_101 : kmr mt_101 in_101 0 (16 * mt_101.2.2.2.length) = true := kmr_as (kmr_join (r_101_0) r_101_48) (by decide +kernel)
theorem c_102 : kmck mt_102 in_102 1079 167 = true := by decide +kernel
set_option maxRecDepth 20000 in
theorem r_102_0 : kmr mt_102 in_102 0 48 = true := by decide +kernel
set_option maxRecDepth 20000 in
theorem r_102_48 : kmr mt_102 in_102 48 48 = true := by decide +kernel
set_option maxRecDepth 20000 in
theorem r_102_96 : kmr mt_102 in_102 96 48 = true := by decide +kernel
theorem q_102 : kmr mt_102 in_102 0 (16 * mt_102.2.2.2.length) = true := kmr_as (kmr_join (kmr_join (r_102_0) r_102_48) r_102_96) (by decide +kernel)
theorem c_103 : kmck mt_103 in_103 410 165 = true := by decide +kernel
set_option maxRecDepth 20000 in
theorem r_103_0 : kmr mt_103 in_103 0 16 = true := by decide +kernel
theorem q_103 : kmr mt_103 in_103 0 (16 * mt_103.2.2.2.length) = true := kmr_as (r_103_0) (by decide +kernel)
theorem c_104 : kmck mt_104 in_104 1441 165 = true := by decide +kernel
set_option maxRecDepth 20000 in
theorem r_104_0 : kmr mt_104 in_104 0 32 = true := by decide +kernel
theorem q_104 : kmr mt_104 in_104 0 (16 * mt_104.2.2.2.length) = true := kmr_as (r_104_0) (by decide +kernel)
theorem c_105 : kmck mt_105 in_105 1654 165 = true := by decide +kernel
set_option maxRecDepth 20000 in
theorem r_105_0 : kmr mt_105 in_105 0 16 = true := by decide +kernel
theorem q_105 : kmr mt_105 in_105 0 (16 * mt_105.2.2.2.length) = true := kmr_as (r_105_0) (by decide +kernel)
theorem c_106 : kmck mt_106 in_106 1472 165 = true := by decide +kernel
set_option maxRecDepth 20000 in
theorem r_106_0 : kmr mt_106 in_106 0 32 = true := by decide +kernel
theorem q_106 : kmr mt_106 in_106 0 (16 * mt_106.2.2.2.length) = true := kmr_as (r_106_0) (by decide +kernel)
theorem c_107 : kmck mt_107 in_107 1454 165 = true := by decide +kernel
set_option maxRecDepth 20000 in
theorem r_107_0 : kmr mt_107 in_107 0 48 = true := by decide +kernel
theorem q_107 : kmr mt_107 in_107 0 (16 * mt_107.2.2.2.length) = true := kmr_as (r_107_0) (by decide +kernel)
theorem c_108 : kmck mt_108 in_108 1458 165 = true := by decide +kernel
set_option maxRecDepth 20000 in
theorem r_108_0 : kmr mt_108 in_108 0 32 = true := by decide +kernel
theorem q_108 : kmr mt_108 in_108 0 (16 * mt_108.2.2.2.length) = true := kmr_as (r_108_0) (by decide +kernel)
theorem c_109 : kmck mt_109 in_109 1462 165 = true := by decide +kernel
set_option maxRecDepth 20000 in
theorem r_109_0 : kmr mt_109 in_109 0 32 = true := by decide +kernel
theorem q_109 : kmr mt_109 in_109 0 (16 * mt_109.2.2.2.length) = true := kmr_as (r_109_0) (by decide +kernel)
theorem c_110 : kmck mt_110 in_110 1466 165 = true := by decide +kernel
set_option maxRecDepth 20000 in
theorem r_110_0 : kmr mt_110 in_110 0 32 = true := by decide +kernel
theorem q_110 : kmr mt_110 in_110 0 (16 * mt_110.2.2.2.length) = true := kmr_as (r_110_0) (by decide +kernel)
theorem c_111 : kmck mt_111 in_111 196 158 = true := by decide +kernel
set_option maxRecDepth 20000 in
theorem r_111_0 : kmr mt_111 in_111 0 32 = true := by decide +kernel
theorem q_111 : kmr mt_111 in_111 0 (16 * mt_111.2.2.2.length) = true := kmr_as (r_111_0) (by decide +kernel)
theorem c_112 : kmck mt_112 in_112 722 158 = true := by decide +kernel
set_option maxRecDepth 20000 in
theorem r_112_0 : kmr mt_112 in_112 0 48 = true := by decide +kernel
theorem q_112 : kmr mt_112 in_112 0 (16 * mt_112.2.2.2.length) = true := kmr_as (r_112_0) (by decide +kernel)
theorem c_113 : kmck mt_113 in_113 1127 158 = true := by decide +kernel
set_option maxRecDepth 20000 in
theorem r_113_0 : kmr mt_113 in_113 0 48 = true := by decide +kernel
theorem q_113 : kmr mt_113 in_113 0 (16 * mt_113.2.2.2.length) = true := kmr_as (r_113_0) (by decide +kernel)
theorem c_114 : kmck mt_114 in_114 1008 158 = true := by decide +kernel
set_option maxRecDepth 20000 in
theorem r_114_0 : kmr mt_114 in_114 0 48 = true := by decide +kernel
theorem q_114 : kmr mt_114 in_114 0 (16 * mt_114.2.2.2.length) = true := kmr_as (r_114_0) (by decide +kernel)
theorem c_115 : kmck mt_115 in_115 1012 158 = true := by decide +kernel
set_option maxRecDepth 20000 in
theorem r_115_0 : kmr mt_115 in_115 0 16 = true := by decide +kernel
theorem q_115 : kmr mt_115 in_115 0 (16 * mt_115.2.2.2.length) = true := kmr_as (r_115_0) (by decide +kernel)
theorem c_116 : kmck mt_116 in_116 643 170 = true := by decide +kernel
set_option maxRecDepth 20000 in
theorem r_116_0 : kmr mt_116 in_116 0 32 = true := by decide +kernel
theorem q_116 : kmr mt_116 in_116 0 (16 * mt_116.2.2.2.length) = true := kmr_as (r_116_0) (by decide +kernel)
theorem c_117 : kmck mt_117 in_117 695 170 = true := by decide +kernel
set_option maxRecDepth 20000 in
theorem r_117_0 : kmr mt_117 in_117 0 32 = true := by decide +kernel
theorem q_117 : kmr mt_117 in_117 0 (16 * mt_117.2.2.2.length) = true := kmr_as (r_117_0) (by decide +kernel)
theorem c_118 : kmck mt_118 in_118 1017 170 = true := by decide +kernel
set_option maxRecDepth 20000 in
theorem r_118_0 : kmr mt_118 in_118 0 32 = true := by decide +kernel
theorem q_118 : kmr mt_118 in_118 0 (16 * mt_118.2.2.2.length) = true := kmr_as (r_118_0) (by decide +kernel)
theorem c_119 : kmck mt_119 in_119 1666 170 = true := by decide +kernel
set_option maxRecDepth 20000 in
theorem r_119_0 : kmr mt_119 in_119 0 32 = true := by decide +kernel
theorem q_119 : kmr mt_119 in_119 0 (16 * mt_119.2.2.2.length) = true := kmr_as (r_119_0) (by decide +kernel)
theorem c_120 : kmck mt_120 in_120 730 170 = true := by decide +kernel
set_option maxRecDepth 20000 in
theorem r_120_0 : kmr mt_120 in_120 0 32 = true := by decide +kernel
theorem q_120 : kmr mt_120 in_120 0 (16 * mt_120.2.2.2.length) = true := kmr_as (r_120_0) (by decide +kernel)
theorem c_121 : kmck mt_121 in_121 1087 170 = true := by decide +kernel
set_option maxRecDepth 20000 in
theorem r_121_0 : kmr mt_121 in_121 0 32 = true := by decide +kernel
theorem q_121 : kmr mt_121 in_121 0 (16 * mt_121.2.2.2.length) = true := kmr_as (r_121_0) (by decide +kernel)
theorem c_122 : kmck mt_122 in_122 1213 170 = true := by decide +kernel
set_option maxRecDepth 20000 in
theorem r_122_0 : kmr mt_122 in_122 0 32 = true := by decide +kernel
theorem q_122 : kmr mt_122 in_122 0 (16 * mt_122.2.2.2.length) = true := kmr_as (r_122_0) (by decide +kernel)
theorem c_123 : kmck mt_123 in_123 1238 170 = true := by decide +kernel
set_option maxRecDepth 20000 in
theorem r_123_0 : kmr mt_123 in_123 0 32 = true := by decide +kernel
theorem q_123 : kmr mt_123 in_123 0 (16 * mt_123.2.2.2.length) = true := kmr_as (r_123_0) (by decide +kernel)
theorem c_124 : kmck mt_124 in_124 1233 170 = true := by decide +kernel
set_option maxRecDepth 20000 in
theorem r_124_0 : kmr mt_124 in_124 0 48 = true := by decide +kernel
set_option maxRecDepth 20000 in
theorem r_124_48 : kmr mt_124 in_124 48 16 = true := by decide +kernel
theorem q_124 : kmr mt_124 in_124 0 (16 * mt_124.2.2.2.length) = true := kmr_as (kmr_join (r_124_0) r_124_48) (by decide +kernel)
theorem c_125 : kmck mt_125 in_125 699 170 = true := by decide +kernel
set_option maxRecDepth 20000 in
theorem r_125_0 : kmr mt_125 in_125 0 16 = true := by decide +kernel
theorem q_125 : kmr mt_125 in_125 0 (16 * mt_125.2.2.2.length) = true := kmr_as (r_125_0) (by decide +kernel)
theorem c_126 : kmck mt_126 in_126 186 157 = true := by decide +kernel
set_option maxRecDepth 20000 in
theorem r_126_0 : kmr mt_126 in_126 0 48 = true := by decide +kernel
set_option maxRecDepth 20000 in
theorem r_126_48 : kmr mt_126 in_126 48 48 = true := by decide +kernel
set_option maxRecDepth 20000 in
theorem r_126_96 : kmr mt_126 in_126 96 16 = true := by decide +kernel
theorem q_126 : kmr mt_126 in_126 0 (16 * mt_126.2.2.2.length) = true := kmr_as (kmr_join (kmr_join (r_126_0) r_126_48) r_126_96) (by decide +kernel)
