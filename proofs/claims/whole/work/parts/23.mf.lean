/-! The table of the methods; every row of it checked against the words. -/
theorem mf_0 : a_mfc 2 md_0 [10002, 10036, 10035] = true := by decide +kernel
theorem mf_1 : a_mfc 2 md_1 [10003, 10072, 10071] = true := by decide +kernel
theorem mf_2 : a_mfc 2 md_2 [10004, 10110, 10109] = true := by decide +kernel
theorem mf_3 : a_mfc 2 md_3 [10005, 10126, 10125] = true := by decide +kernel
theorem mf_4 : a_mfc 2 md_4 [10007, 10146, 10145] = true := by decide +kernel
theorem mf_5 : a_mfc 2 md_5 [10006, 10139, 10138] = true := by decide +kernel
theorem mf_6 : a_mfc 2 md_6 [10009, 20016, 20015] = true := by decide +kernel
theorem mf_7 : a_mfc 2 md_7 [10008, 20008, 20007] = true := by decide +kernel
theorem mf_8 : a_mfc 1 md_8 [10002, 20169, 20167, 20168] = true := by decide +kernel
theorem mf_9 : a_mfc 1 md_9 [10001, 20165, 20164, 0] = true := by decide +kernel
theorem mf_10 : a_mfc 1 md_10 [10002, 20184, 20183, 1] = true := by decide +kernel
theorem mf_11 : a_mfc 1 md_11 [10002, 20188, 20186, 20187] = true := by decide +kernel
theorem mf_12 : a_mfc 1 md_12 [10002, 20180, 20178, 20179] = true := by decide +kernel
theorem mf_13 : a_mfc 1 md_13 [10002, 20192, 20190, 20191] = true := by decide +kernel
theorem mf_14 : a_mfc 1 md_14 [10002, 20201, 20199, 20200] = true := by decide +kernel
theorem mf_15 : a_mfc 1 md_15 [10002, 20211, 20209, 20210] = true := by decide +kernel
theorem mf_16 : a_mfc 1 md_16 [10002, 20215, 20213, 20214] = true := by decide +kernel
theorem mf_17 : a_mfc 1 md_17 [10003, 20230, 20228, 20229] = true := by decide +kernel
theorem mf_18 : a_mfc 1 md_18 [10002, 20234, 20232, 20233] = true := by decide +kernel
theorem mf_19 : a_mfc 1 md_19 [10003, 20225, 20224, 4] = true := by decide +kernel
theorem mf_20 : a_mfc 1 md_20 [10003, 20221, 20219, 20220] = true := by decide +kernel
theorem mf_21 : a_mfc 1 md_21 [10003, 20238, 20237, 5] = true := by decide +kernel
theorem mf_22 : a_mfc 1 md_22 [10002, 30002, 30000, 30001] = true := by decide +kernel
theorem mf_23 : a_mfc 1 md_23 [10002, 30006, 30004, 30005] = true := by decide +kernel
theorem mf_24 : a_mfc 1 md_24 [10003, 20207, 20206, 3] = true := by decide +kernel
theorem mf_25 : a_mfc 1 md_25 [10003, 30011, 30010, 6] = true := by decide +kernel
theorem mf_26 : a_mfc 1 md_26 [10003, 30016, 30015, 7] = true := by decide +kernel
theorem mf_27 : a_mfc 1 md_27 [10003, 20196, 20195, 2] = true := by decide +kernel
theorem mf_28 : a_mfc 1 md_28 [10003, 20176, 20174, 20175] = true := by decide +kernel
theorem mf_29 : a_mfc 1 md_29 [10003, 30024, 30022, 30023] = true := by decide +kernel
theorem mf_30 : a_mfc 1 md_30 [10007, 30031, 30029, 30030] = true := by decide +kernel
theorem mf_31 : a_mfc 1 md_31 [10008, 30020, 30018, 30019] = true := by decide +kernel
theorem mf_32 : a_mfc 1 md_32 [10006, 30036, 30034, 30035] = true := by decide +kernel
theorem mf_33 : a_mfc 1 md_33 [10001, 20161, 20159, 20160] = true := by decide +kernel
theorem mf_34 : a_mfc 2 md_34 [10001, 10028, 10027] = true := by decide +kernel
theorem mf_35 : a_mfc 1 md_35 [10016, 60177, 60176, 35] = true := by decide +kernel
theorem mf_36 : a_mfc 0 md_36 [10016, 60186, 60185] = true := by decide +kernel
theorem mf_37 : a_mfc 1 md_37 [10016, 60183, 60182, 36] = true := by decide +kernel
theorem mf_38 : a_mfc 1 md_38 [10016, 60190, 60189, 37] = true := by decide +kernel
theorem mf_39 : a_mfc 1 md_39 [10016, 60194, 60193, 38] = true := by decide +kernel
theorem mf_40 : a_mfc 2 md_40 [10016, 60172, 60171] = true := by decide +kernel
theorem mf_41 : a_mfc 1 md_41 [10001, 30093, 30092, 8] = true := by decide +kernel
theorem mf_42 : a_mfc 1 md_42 [10001, 30089, 30087, 30088] = true := by decide +kernel
theorem mf_43 : a_mfc 1 md_43 [10016, 70042, 70041, 39] = true := by decide +kernel
theorem mf_44 : a_mfc 1 md_44 [10016, 70038, 70036, 70037] = true := by decide +kernel
theorem mf_45 : a_mfc 1 md_45 [10001, 30097, 30095, 30096] = true := by decide +kernel
theorem mf_46 : a_mfc 0 md_46 [10016, 70049, 70048] = true := by decide +kernel
theorem mf_47 : a_mfc 1 md_47 [10016, 70046, 70044, 70045] = true := by decide +kernel
theorem mf_48 : a_mfc 1 md_48 [10016, 70065, 70064, 40] = true := by decide +kernel
theorem mf_49 : a_mfc 1 md_49 [10016, 70077, 70076, 43] = true := by decide +kernel
theorem mf_50 : a_mfc 1 md_50 [10016, 70083, 70082, 44] = true := by decide +kernel
theorem mf_51 : a_mfc 1 md_51 [10016, 70073, 70072, 42] = true := by decide +kernel
theorem mf_52 : a_mfc 1 md_52 [10016, 70069, 70068, 41] = true := by decide +kernel
theorem mf_53 : a_mfc 1 md_53 [10016, 70094, 70093, 46] = true := by decide +kernel
theorem mf_54 : a_mfc 1 md_54 [10016, 70103, 70102, 48] = true := by decide +kernel
theorem mf_55 : a_mfc 1 md_55 [10016, 70107, 70106, 49] = true := by decide +kernel
theorem mf_56 : a_mfc 1 md_56 [10016, 70111, 70110, 50] = true := by decide +kernel
theorem mf_57 : a_mfc 1 md_57 [10016, 70115, 70114, 51] = true := by decide +kernel
theorem mf_58 : a_mfc 1 md_58 [10016, 70099, 70098, 47] = true := by decide +kernel
theorem mf_59 : a_mfc 1 md_59 [10016, 70120, 70119, 52] = true := by decide +kernel
theorem mf_60 : a_mfc 1 md_60 [10016, 70125, 70124, 53] = true := by decide +kernel
theorem mf_61 : a_mfc 1 md_61 [10016, 70129, 70128, 54] = true := by decide +kernel
theorem mf_62 : a_mfc 1 md_62 [10016, 70089, 70088, 45] = true := by decide +kernel
theorem mf_63 : a_mfc 1 md_63 [10016, 70133, 70132, 55] = true := by decide +kernel
theorem mf_64 : a_mfc 1 md_64 [10016, 70137, 70136, 56] = true := by decide +kernel
theorem mf_65 : a_mfc 1 md_65 [10016, 70061, 70059, 70060] = true := by decide +kernel
theorem mf_66 : a_mfc 0 md_66 [10004, 30115, 30114] = true := by decide +kernel
theorem mf_67 : a_mfc 0 md_67 [10004, 30128, 30127] = true := by decide +kernel
theorem mf_68 : a_mfc 0 md_68 [10004, 30132, 30131] = true := by decide +kernel
theorem mf_69 : a_mfc 0 md_69 [10004, 30125, 30124] = true := by decide +kernel
theorem mf_70 : a_mfc 1 md_70 [10004, 30112, 30111, 9] = true := by decide +kernel
theorem mf_71 : a_mfc 1 md_71 [10004, 30106, 30104, 30105] = true := by decide +kernel
theorem mf_72 : a_mfc 1 md_72 [10007, 30143, 30141, 30142] = true := by decide +kernel
theorem mf_73 : a_mfc 1 md_73 [10006, 30139, 30137, 30138] = true := by decide +kernel
theorem mf_74 : a_mfc 1 md_74 [10008, 30154, 30152, 30153] = true := by decide +kernel
theorem mf_75 : a_mfc 1 md_75 [10009, 30170, 30168, 30169] = true := by decide +kernel
theorem mf_76 : a_mfc 1 md_76 [10008, 30166, 30164, 30165] = true := by decide +kernel
theorem mf_77 : a_mfc 0 md_77 [10001, 30181, 30180] = true := by decide +kernel
theorem mf_78 : a_mfc 0 md_78 [10001, 30184, 30183] = true := by decide +kernel
theorem mf_79 : a_mfc 1 md_79 [10009, 30178, 30176, 30177] = true := by decide +kernel
theorem mf_80 : a_mfc 1 md_80 [10007, 30188, 30186, 30187] = true := by decide +kernel
theorem mf_81 : a_mfc 1 md_81 [10008, 30174, 30173, 11] = true := by decide +kernel
theorem mf_82 : a_mfc 1 md_82 [10008, 30162, 30161, 10] = true := by decide +kernel
theorem mf_83 : a_mfc 1 md_83 [10008, 30196, 30195, 13] = true := by decide +kernel
theorem mf_84 : a_mfc 1 md_84 [10008, 30192, 30191, 12] = true := by decide +kernel
theorem mf_85 : a_mfc 0 md_85 [10008, 30203, 30202] = true := by decide +kernel
theorem mf_86 : a_mfc 1 md_86 [10009, 30213, 30211, 30212] = true := by decide +kernel
theorem mf_87 : a_mfc 1 md_87 [10009, 30217, 30215, 30216] = true := by decide +kernel
theorem mf_88 : a_mfc 1 md_88 [10009, 30207, 30205, 30206] = true := by decide +kernel
theorem mf_89 : a_mfc 1 md_89 [10007, 30224, 30222, 30223] = true := by decide +kernel
theorem mf_90 : a_mfc 1 md_90 [10008, 30200, 30199, 14] = true := by decide +kernel
theorem mf_91 : a_mfc 1 md_91 [10008, 30232, 30231, 16] = true := by decide +kernel
theorem mf_92 : a_mfc 1 md_92 [10007, 30236, 30234, 30235] = true := by decide +kernel
theorem mf_93 : a_mfc 1 md_93 [10008, 30228, 30227, 15] = true := by decide +kernel
theorem mf_94 : a_mfc 1 md_94 [10008, 30158, 30156, 30157] = true := by decide +kernel
theorem mf_95 : a_mfc 0 md_95 [10004, 30150, 30149] = true := by decide +kernel
theorem mf_96 : a_mfc 1 md_96 [10008, 40004, 40002, 40003] = true := by decide +kernel
theorem mf_97 : a_mfc 1 md_97 [10007, 40012, 40010, 40011] = true := by decide +kernel
theorem mf_98 : a_mfc 1 md_98 [10008, 40016, 40015, 17] = true := by decide +kernel
theorem mf_99 : a_mfc 1 md_99 [10008, 40008, 40006, 40007] = true := by decide +kernel
theorem mf_100 : a_mfc 0 md_100 [10004, 30239, 30238] = true := by decide +kernel
theorem mf_101 : a_mfc 1 md_101 [10008, 40024, 40022, 40023] = true := by decide +kernel
theorem mf_102 : a_mfc 0 md_102 [10004, 40019, 40018] = true := by decide +kernel
theorem mf_103 : a_mfc 1 md_103 [10008, 40039, 40037, 40038] = true := by decide +kernel
theorem mf_104 : a_mfc 1 md_104 [10008, 40035, 40034, 18] = true := by decide +kernel
theorem mf_105 : a_mfc 1 md_105 [10008, 40031, 40029, 40030] = true := by decide +kernel
theorem mf_106 : a_mfc 1 md_106 [10008, 40051, 40049, 40050] = true := by decide +kernel
theorem mf_107 : a_mfc 1 md_107 [10008, 40047, 40045, 40046] = true := by decide +kernel
theorem mf_108 : a_mfc 1 md_108 [10007, 40055, 40053, 40054] = true := by decide +kernel
theorem mf_109 : a_mfc 1 md_109 [10008, 40043, 40041, 40042] = true := by decide +kernel
theorem mf_110 : a_mfc 0 md_110 [10004, 40027, 40026] = true := by decide +kernel
theorem mf_111 : a_mfc 1 md_111 [10007, 40059, 40057, 40058] = true := by decide +kernel
theorem mf_112 : a_mfc 1 md_112 [10004, 30147, 30145, 30146] = true := by decide +kernel
theorem mf_113 : a_mfc 1 md_113 [10001, 30102, 30100, 30101] = true := by decide +kernel
theorem mf_114 : a_mfc 1 md_114 [10016, 70149, 70148, 58] = true := by decide +kernel
theorem mf_115 : a_mfc 1 md_115 [10016, 70158, 70157, 59] = true := by decide +kernel
theorem mf_116 : a_mfc 1 md_116 [10016, 70163, 70162, 60] = true := by decide +kernel
theorem mf_117 : a_mfc 1 md_117 [10016, 70145, 70144, 57] = true := by decide +kernel
theorem mf_118 : a_mfc 1 md_118 [10016, 70167, 70166, 61] = true := by decide +kernel
theorem mf_119 : a_mfc 0 md_119 [10016, 70194, 70193] = true := by decide +kernel
theorem mf_120 : a_mfc 1 md_120 [10016, 70191, 70190, 67] = true := by decide +kernel
theorem mf_121 : a_mfc 1 md_121 [10016, 70198, 70197, 68] = true := by decide +kernel
theorem mf_122 : a_mfc 1 md_122 [10016, 70187, 70186, 66] = true := by decide +kernel
theorem mf_123 : a_mfc 1 md_123 [10016, 70202, 70201, 69] = true := by decide +kernel
theorem mf_124 : a_mfc 1 md_124 [10016, 70206, 70205, 70] = true := by decide +kernel
theorem mf_125 : a_mfc 1 md_125 [10016, 70183, 70182, 65] = true := by decide +kernel
theorem mf_126 : a_mfc 0 md_126 [10016, 70221, 70220] = true := by decide +kernel
theorem mf_127 : a_mfc 1 md_127 [10016, 70218, 70217, 73] = true := by decide +kernel
theorem mf_128 : a_mfc 1 md_128 [10016, 70214, 70213, 72] = true := by decide +kernel
theorem mf_129 : a_mfc 1 md_129 [10016, 70225, 70224, 74] = true := by decide +kernel
theorem mf_130 : a_mfc 1 md_130 [10016, 80001, 80000, 78] = true := by decide +kernel
theorem mf_131 : a_mfc 0 md_131 [10016, 80005, 80004] = true := by decide +kernel
theorem mf_132 : a_mfc 1 md_132 [10016, 70237, 70236, 77] = true := by decide +kernel
theorem mf_133 : a_mfc 1 md_133 [10016, 80009, 80008, 79] = true := by decide +kernel
theorem mf_134 : a_mfc 1 md_134 [10016, 70233, 70232, 76] = true := by decide +kernel
theorem mf_135 : a_mfc 1 md_135 [10016, 70229, 70228, 75] = true := by decide +kernel
theorem mf_136 : a_mfc 1 md_136 [10016, 70210, 70209, 71] = true := by decide +kernel
theorem mf_137 : a_mfc 1 md_137 [10016, 80017, 80016, 81] = true := by decide +kernel
theorem mf_138 : a_mfc 1 md_138 [10016, 80021, 80020, 82] = true := by decide +kernel
theorem mf_139 : a_mfc 1 md_139 [10016, 80013, 80012, 80] = true := by decide +kernel
theorem mf_140 : a_mfc 1 md_140 [10016, 70179, 70178, 64] = true := by decide +kernel
theorem mf_141 : a_mfc 1 md_141 [10016, 70175, 70174, 63] = true := by decide +kernel
theorem mf_142 : a_mfc 1 md_142 [10016, 80025, 80024, 83] = true := by decide +kernel
theorem mf_143 : a_mfc 1 md_143 [10016, 80037, 80036, 86] = true := by decide +kernel
theorem mf_144 : a_mfc 1 md_144 [10016, 80033, 80032, 85] = true := by decide +kernel
theorem mf_145 : a_mfc 1 md_145 [10016, 80029, 80028, 84] = true := by decide +kernel
theorem mf_146 : a_mfc 1 md_146 [10016, 80049, 80048, 89] = true := by decide +kernel
theorem mf_147 : a_mfc 1 md_147 [10016, 80045, 80044, 88] = true := by decide +kernel
theorem mf_148 : a_mfc 1 md_148 [10016, 80041, 80040, 87] = true := by decide +kernel
theorem mf_149 : a_mfc 1 md_149 [10016, 80053, 80052, 90] = true := by decide +kernel
theorem mf_150 : a_mfc 0 md_150 [10016, 80060, 80059] = true := by decide +kernel
theorem mf_151 : a_mfc 0 md_151 [10016, 80063, 80062] = true := by decide +kernel
theorem mf_152 : a_mfc 1 md_152 [10016, 80067, 80066, 92] = true := by decide +kernel
theorem mf_153 : a_mfc 1 md_153 [10016, 80075, 80074, 94] = true := by decide +kernel
theorem mf_154 : a_mfc 1 md_154 [10016, 80071, 80070, 93] = true := by decide +kernel
theorem mf_155 : a_mfc 1 md_155 [10016, 80079, 80078, 95] = true := by decide +kernel
theorem mf_156 : a_mfc 1 md_156 [10016, 80083, 80082, 96] = true := by decide +kernel
theorem mf_157 : a_mfc 1 md_157 [10016, 80057, 80056, 91] = true := by decide +kernel
theorem mf_158 : a_mfc 1 md_158 [10016, 70171, 70170, 62] = true := by decide +kernel
theorem mf_159 : a_mfc 1 md_159 [10016, 70141, 70139, 70140] = true := by decide +kernel
theorem mf_160 : a_mfc 1 md_160 [10001, 40063, 40061, 40062] = true := by decide +kernel
theorem mf_161 : a_mfc 1 md_161 [10016, 70053, 70051, 70052] = true := by decide +kernel
theorem mf_162 : a_mfc 1 md_162 [10001, 40067, 40065, 40066] = true := by decide +kernel
theorem mf_163 : a_mfc 1 md_163 [10016, 70057, 70055, 70056] = true := by decide +kernel
theorem mf_164 : a_mfc 1 md_164 [10001, 40071, 40069, 40070] = true := by decide +kernel
theorem mf_165 : a_mfc 1 md_165 [10016, 80091, 80090, 97] = true := by decide +kernel
theorem mf_166 : a_mfc 1 md_166 [10016, 80087, 80085, 80086] = true := by decide +kernel
theorem mf_167 : a_mfc 1 md_167 [10001, 40075, 40073, 40074] = true := by decide +kernel
theorem mf_168 : a_mfc 1 md_168 [10016, 80095, 80093, 80094] = true := by decide +kernel
theorem mf_169 : a_mfc 1 md_169 [10001, 40079, 40077, 40078] = true := by decide +kernel
theorem mf_170 : a_mfc 1 md_170 [10016, 80099, 80097, 80098] = true := by decide +kernel
theorem mf_171 : a_mfc 0 md_171 [10001, 40216, 40215] = true := by decide +kernel
theorem mf_172 : a_mfc 1 md_172 [10001, 40213, 40212, 24] = true := by decide +kernel
theorem mf_173 : a_mfc 1 md_173 [10001, 40209, 40207, 40208] = true := by decide +kernel
theorem mf_174 : a_mfc 0 md_174 [10000, 40204, 40203] = true := by decide +kernel
theorem mf_175 : a_mfc 1 md_175 [10016, 80107, 80106, 98] = true := by decide +kernel
theorem mf_176 : a_mfc 1 md_176 [10016, 80111, 80110, 99] = true := by decide +kernel
theorem mf_177 : a_mfc 1 md_177 [10016, 80103, 80101, 80102] = true := by decide +kernel
theorem mf_178 : a_mfc 1 md_178 [10016, 70034, 70032, 70033] = true := by decide +kernel
theorem mf_179 : a_mfc 1 md_179 [10001, 50052, 50050, 50051] = true := by decide +kernel
theorem mf_180 : a_mfc 0 md_180 [10000, 50048, 50047] = true := by decide +kernel
theorem mf_181 : a_mfc 1 md_181 [10016, 80115, 80113, 80114] = true := by decide +kernel
theorem mf_182 : a_mfc 1 md_182 [10001, 50059, 50057, 50058] = true := by decide +kernel
theorem mf_183 : a_mfc 0 md_183 [10000, 50055, 50054] = true := by decide +kernel
theorem mf_184 : a_mfc 1 md_184 [10016, 80123, 80122, 100] = true := by decide +kernel
theorem mf_185 : a_mfc 1 md_185 [10016, 80119, 80117, 80118] = true := by decide +kernel
theorem mf_186 : a_mfc 1 md_186 [10001, 50072, 50071, 26] = true := by decide +kernel
theorem mf_187 : a_mfc 1 md_187 [10001, 50068, 50066, 50067] = true := by decide +kernel
theorem mf_188 : a_mfc 0 md_188 [10000, 50064, 50063] = true := by decide +kernel
theorem mf_189 : a_mfc 1 md_189 [10016, 80131, 80130, 101] = true := by decide +kernel
theorem mf_190 : a_mfc 1 md_190 [10016, 80127, 80125, 80126] = true := by decide +kernel
theorem mf_191 : a_mfc 1 md_191 [10001, 50079, 50077, 50078] = true := by decide +kernel
theorem mf_192 : a_mfc 0 md_192 [10000, 50075, 50074] = true := by decide +kernel
theorem mf_193 : a_mfc 1 md_193 [10016, 80135, 80133, 80134] = true := by decide +kernel
theorem mf_194 : a_mfc 1 md_194 [10001, 40083, 40081, 40082] = true := by decide +kernel
theorem mf_195 : a_mfc 1 md_195 [10016, 80139, 80137, 80138] = true := by decide +kernel
theorem mf_196 : a_mfc 1 md_196 [10001, 50090, 50089, 27] = true := by decide +kernel
theorem mf_197 : a_mfc 1 md_197 [10001, 50086, 50084, 50085] = true := by decide +kernel
theorem mf_198 : a_mfc 0 md_198 [10000, 50082, 50081] = true := by decide +kernel
theorem mf_199 : a_mfc 1 md_199 [10016, 80143, 80141, 80142] = true := by decide +kernel
theorem mf_200 : a_mfc 1 md_200 [10001, 50097, 50095, 50096] = true := by decide +kernel
theorem mf_201 : a_mfc 0 md_201 [10000, 50093, 50092] = true := by decide +kernel
theorem mf_202 : a_mfc 1 md_202 [10016, 80151, 80150, 102] = true := by decide +kernel
theorem mf_203 : a_mfc 1 md_203 [10016, 80147, 80145, 80146] = true := by decide +kernel
theorem mf_204 : a_mfc 1 md_204 [10001, 50104, 50102, 50103] = true := by decide +kernel
theorem mf_205 : a_mfc 0 md_205 [10000, 50100, 50099] = true := by decide +kernel
theorem mf_206 : a_mfc 1 md_206 [10016, 80155, 80153, 80154] = true := by decide +kernel
theorem mf_207 : a_mfc 1 md_207 [10001, 50111, 50109, 50110] = true := by decide +kernel
theorem mf_208 : a_mfc 0 md_208 [10000, 50107, 50106] = true := by decide +kernel
theorem mf_209 : a_mfc 1 md_209 [10016, 80159, 80157, 80158] = true := by decide +kernel
theorem mf_210 : a_mfc 1 md_210 [10001, 50118, 50116, 50117] = true := by decide +kernel
theorem mf_211 : a_mfc 0 md_211 [10000, 50114, 50113] = true := by decide +kernel
theorem mf_212 : a_mfc 1 md_212 [10016, 80163, 80161, 80162] = true := by decide +kernel
theorem mf_213 : a_mfc 1 md_213 [10001, 50125, 50123, 50124] = true := by decide +kernel
theorem mf_214 : a_mfc 0 md_214 [10000, 50121, 50120] = true := by decide +kernel
theorem mf_215 : a_mfc 1 md_215 [10016, 80167, 80165, 80166] = true := by decide +kernel
theorem mf_216 : a_mfc 1 md_216 [10001, 50132, 50130, 50131] = true := by decide +kernel
theorem mf_217 : a_mfc 0 md_217 [10000, 50128, 50127] = true := by decide +kernel
theorem mf_218 : a_mfc 1 md_218 [10016, 80171, 80169, 80170] = true := by decide +kernel
theorem mf_219 : a_mfc 1 md_219 [10001, 50139, 50137, 50138] = true := by decide +kernel
theorem mf_220 : a_mfc 0 md_220 [10000, 50135, 50134] = true := by decide +kernel
theorem mf_221 : a_mfc 1 md_221 [10016, 80175, 80173, 80174] = true := by decide +kernel
theorem mf_222 : a_mfc 1 md_222 [10001, 50146, 50144, 50145] = true := by decide +kernel
theorem mf_223 : a_mfc 0 md_223 [10000, 50142, 50141] = true := by decide +kernel
theorem mf_224 : a_mfc 1 md_224 [10016, 80179, 80177, 80178] = true := by decide +kernel
theorem mf_225 : a_mfc 1 md_225 [10001, 50154, 50152, 50153] = true := by decide +kernel
theorem mf_226 : a_mfc 0 md_226 [10000, 50150, 50149] = true := by decide +kernel
theorem mf_227 : a_mfc 1 md_227 [10016, 80183, 80181, 80182] = true := by decide +kernel
theorem mf_228 : a_mfc 1 md_228 [10001, 40087, 40085, 40086] = true := by decide +kernel
theorem mf_229 : a_mfc 1 md_229 [10016, 80187, 80185, 80186] = true := by decide +kernel
theorem mf_230 : a_mfc 1 md_230 [10001, 50166, 50165, 28] = true := by decide +kernel
theorem mf_231 : a_mfc 1 md_231 [10001, 50162, 50160, 50161] = true := by decide +kernel
theorem mf_232 : a_mfc 0 md_232 [10000, 50158, 50157] = true := by decide +kernel
theorem mf_233 : a_mfc 1 md_233 [10016, 80199, 80198, 104] = true := by decide +kernel
theorem mf_234 : a_mfc 1 md_234 [10016, 80195, 80194, 103] = true := by decide +kernel
theorem mf_235 : a_mfc 1 md_235 [10016, 80191, 80189, 80190] = true := by decide +kernel
theorem mf_236 : a_mfc 1 md_236 [10001, 50173, 50171, 50172] = true := by decide +kernel
theorem mf_237 : a_mfc 0 md_237 [10000, 50169, 50168] = true := by decide +kernel
theorem mf_238 : a_mfc 1 md_238 [10016, 80203, 80201, 80202] = true := by decide +kernel
theorem mf_239 : a_mfc 1 md_239 [10001, 50180, 50178, 50179] = true := by decide +kernel
theorem mf_240 : a_mfc 0 md_240 [10000, 50176, 50175] = true := by decide +kernel
theorem mf_241 : a_mfc 1 md_241 [10016, 80211, 80210, 105] = true := by decide +kernel
theorem mf_242 : a_mfc 1 md_242 [10016, 80207, 80205, 80206] = true := by decide +kernel
theorem mf_243 : a_mfc 1 md_243 [10001, 50187, 50185, 50186] = true := by decide +kernel
theorem mf_244 : a_mfc 0 md_244 [10000, 50183, 50182] = true := by decide +kernel
theorem mf_245 : a_mfc 1 md_245 [10016, 80215, 80213, 80214] = true := by decide +kernel
theorem mf_246 : a_mfc 1 md_246 [10001, 50194, 50192, 50193] = true := by decide +kernel
theorem mf_247 : a_mfc 0 md_247 [10000, 50190, 50189] = true := by decide +kernel
theorem mf_248 : a_mfc 1 md_248 [10016, 80219, 80217, 80218] = true := by decide +kernel
theorem mf_249 : a_mfc 1 md_249 [10001, 50201, 50199, 50200] = true := by decide +kernel
theorem mf_250 : a_mfc 0 md_250 [10000, 50197, 50196] = true := by decide +kernel
theorem mf_251 : a_mfc 1 md_251 [10016, 80223, 80221, 80222] = true := by decide +kernel
theorem mf_252 : a_mfc 1 md_252 [10001, 40091, 40089, 40090] = true := by decide +kernel
theorem mf_253 : a_mfc 1 md_253 [10016, 80227, 80225, 80226] = true := by decide +kernel
theorem mf_254 : a_mfc 1 md_254 [10001, 50212, 50211, 29] = true := by decide +kernel
theorem mf_255 : a_mfc 1 md_255 [10001, 50208, 50206, 50207] = true := by decide +kernel
theorem mf_256 : a_mfc 0 md_256 [10000, 50204, 50203] = true := by decide +kernel
theorem mf_257 : a_mfc 1 md_257 [10016, 80235, 80234, 106] = true := by decide +kernel
theorem mf_258 : a_mfc 1 md_258 [10016, 80231, 80229, 80230] = true := by decide +kernel
theorem mf_259 : a_mfc 1 md_259 [10001, 50219, 50217, 50218] = true := by decide +kernel
theorem mf_260 : a_mfc 0 md_260 [10000, 50215, 50214] = true := by decide +kernel
theorem mf_261 : a_mfc 1 md_261 [10016, 80239, 80237, 80238] = true := by decide +kernel
theorem mf_262 : a_mfc 1 md_262 [10001, 40095, 40093, 40094] = true := by decide +kernel
theorem mf_263 : a_mfc 1 md_263 [10016, 90003, 90001, 90002] = true := by decide +kernel
theorem mf_264 : a_mfc 1 md_264 [10001, 40100, 40098, 40099] = true := by decide +kernel
theorem mf_265 : a_mfc 1 md_265 [10016, 90007, 90005, 90006] = true := by decide +kernel
theorem mf_266 : a_mfc 1 md_266 [10001, 40104, 40102, 40103] = true := by decide +kernel
theorem mf_267 : a_mfc 1 md_267 [10016, 90015, 90014, 107] = true := by decide +kernel
theorem mf_268 : a_mfc 1 md_268 [10016, 90011, 90009, 90010] = true := by decide +kernel
theorem mf_269 : a_mfc 1 md_269 [10001, 40108, 40106, 40107] = true := by decide +kernel
theorem mf_270 : a_mfc 1 md_270 [10016, 90019, 90017, 90018] = true := by decide +kernel
theorem mf_271 : a_mfc 1 md_271 [10001, 40112, 40110, 40111] = true := by decide +kernel
theorem mf_272 : a_mfc 1 md_272 [10016, 90023, 90021, 90022] = true := by decide +kernel
theorem mf_273 : a_mfc 1 md_273 [10001, 40116, 40114, 40115] = true := by decide +kernel
theorem mf_274 : a_mfc 1 md_274 [10016, 90027, 90025, 90026] = true := by decide +kernel
theorem mf_275 : a_mfc 1 md_275 [10008, 40124, 40122, 40123] = true := by decide +kernel
theorem mf_276 : a_mfc 1 md_276 [10001, 40120, 40118, 40119] = true := by decide +kernel
theorem mf_277 : a_mfc 1 md_277 [10016, 90031, 90029, 90030] = true := by decide +kernel
theorem mf_278 : a_mfc 1 md_278 [10001, 40128, 40126, 40127] = true := by decide +kernel
theorem mf_279 : a_mfc 1 md_279 [10016, 90035, 90033, 90034] = true := by decide +kernel
theorem mf_280 : a_mfc 1 md_280 [10001, 40132, 40130, 40131] = true := by decide +kernel
theorem mf_281 : a_mfc 1 md_281 [10016, 90039, 90037, 90038] = true := by decide +kernel
theorem mf_282 : a_mfc 1 md_282 [10001, 40136, 40134, 40135] = true := by decide +kernel
theorem mf_283 : a_mfc 1 md_283 [10016, 90047, 90046, 108] = true := by decide +kernel
theorem mf_284 : a_mfc 1 md_284 [10016, 90043, 90041, 90042] = true := by decide +kernel
theorem mf_285 : a_mfc 0 md_285 [10001, 50231, 50230] = true := by decide +kernel
theorem mf_286 : a_mfc 1 md_286 [10001, 50228, 50226, 50227] = true := by decide +kernel
theorem mf_287 : a_mfc 0 md_287 [10000, 50223, 50222] = true := by decide +kernel
theorem mf_288 : a_mfc 1 md_288 [10016, 90051, 90049, 90050] = true := by decide +kernel
theorem mf_289 : a_mfc 1 md_289 [10001, 60015, 60013, 60014] = true := by decide +kernel
theorem mf_290 : a_mfc 0 md_290 [10000, 60011, 60010] = true := by decide +kernel
theorem mf_291 : a_mfc 1 md_291 [10016, 90057, 90055, 90056] = true := by decide +kernel
theorem mf_292 : a_mfc 1 md_292 [10008, 60027, 60025, 60026] = true := by decide +kernel
theorem mf_293 : a_mfc 1 md_293 [10001, 60023, 60021, 60022] = true := by decide +kernel
theorem mf_294 : a_mfc 0 md_294 [10000, 60019, 60018] = true := by decide +kernel
theorem mf_295 : a_mfc 1 md_295 [10016, 90062, 90060, 90061] = true := by decide +kernel
theorem mf_296 : a_mfc 1 md_296 [10008, 60038, 60036, 60037] = true := by decide +kernel
theorem mf_297 : a_mfc 1 md_297 [10001, 60034, 60032, 60033] = true := by decide +kernel
theorem mf_298 : a_mfc 0 md_298 [10000, 60030, 60029] = true := by decide +kernel
theorem mf_299 : a_mfc 1 md_299 [10016, 90074, 90073, 110] = true := by decide +kernel
theorem mf_300 : a_mfc 1 md_300 [10016, 90070, 90069, 109] = true := by decide +kernel
theorem mf_301 : a_mfc 1 md_301 [10016, 90066, 90064, 90065] = true := by decide +kernel
theorem mf_302 : a_mfc 1 md_302 [10003, 40151, 40149, 40150] = true := by decide +kernel
theorem mf_303 : a_mfc 0 md_303 [10005, 40147, 40146] = true := by decide +kernel
theorem mf_304 : a_mfc 0 md_304 [10005, 40154, 40153] = true := by decide +kernel
theorem mf_305 : a_mfc 0 md_305 [10005, 40157, 40156] = true := by decide +kernel
theorem mf_306 : a_mfc 1 md_306 [10005, 40172, 40171, 21] = true := by decide +kernel
theorem mf_307 : a_mfc 1 md_307 [10005, 40176, 40175, 22] = true := by decide +kernel
theorem mf_308 : a_mfc 1 md_308 [10005, 40181, 40180, 23] = true := by decide +kernel
theorem mf_309 : a_mfc 1 md_309 [10005, 40166, 40165, 20] = true := by decide +kernel
theorem mf_310 : a_mfc 1 md_310 [10005, 40162, 40161, 19] = true := by decide +kernel
theorem mf_311 : a_mfc 0 md_311 [10005, 40186, 40185] = true := by decide +kernel
theorem mf_312 : a_mfc 1 md_312 [10005, 40144, 40142, 40143] = true := by decide +kernel
theorem mf_313 : a_mfc 1 md_313 [10001, 40140, 40138, 40139] = true := by decide +kernel
theorem mf_314 : a_mfc 1 md_314 [10016, 90082, 90081, 111] = true := by decide +kernel
theorem mf_315 : a_mfc 1 md_315 [10016, 90094, 90093, 114] = true := by decide +kernel
theorem mf_316 : a_mfc 1 md_316 [10016, 90090, 90089, 113] = true := by decide +kernel
theorem mf_317 : a_mfc 1 md_317 [10016, 90086, 90085, 112] = true := by decide +kernel
theorem mf_318 : a_mfc 1 md_318 [10016, 90078, 90076, 90077] = true := by decide +kernel
theorem mf_319 : a_mfc 1 md_319 [10001, 60047, 60045, 60046] = true := by decide +kernel
theorem mf_320 : a_mfc 0 md_320 [10000, 60042, 60041] = true := by decide +kernel
theorem mf_321 : a_mfc 1 md_321 [10016, 90098, 90096, 90097] = true := by decide +kernel
theorem mf_322 : a_mfc 1 md_322 [10001, 60076, 60075, 30] = true := by decide +kernel
theorem mf_323 : a_mfc 1 md_323 [10001, 60080, 60079, 31] = true := by decide +kernel
theorem mf_324 : a_mfc 1 md_324 [10001, 60072, 60070, 60071] = true := by decide +kernel
theorem mf_325 : a_mfc 0 md_325 [10000, 60068, 60067] = true := by decide +kernel
theorem mf_326 : a_mfc 1 md_326 [10016, 90107, 90106, 115] = true := by decide +kernel
theorem mf_327 : a_mfc 1 md_327 [10016, 90103, 90101, 90102] = true := by decide +kernel
theorem mf_328 : a_mfc 1 md_328 [10001, 60090, 60088, 60089] = true := by decide +kernel
theorem mf_329 : a_mfc 0 md_329 [10000, 60086, 60085] = true := by decide +kernel
theorem mf_330 : a_mfc 1 md_330 [10016, 90112, 90110, 90111] = true := by decide +kernel
theorem mf_331 : a_mfc 1 md_331 [10001, 60098, 60096, 60097] = true := by decide +kernel
theorem mf_332 : a_mfc 0 md_332 [10000, 60094, 60093] = true := by decide +kernel
theorem mf_333 : a_mfc 1 md_333 [10016, 90116, 90114, 90115] = true := by decide +kernel
theorem mf_334 : a_mfc 1 md_334 [10001, 60107, 60105, 60106] = true := by decide +kernel
theorem mf_335 : a_mfc 0 md_335 [10000, 60103, 60102] = true := by decide +kernel
theorem mf_336 : a_mfc 1 md_336 [10016, 90120, 90118, 90119] = true := by decide +kernel
theorem mf_337 : a_mfc 1 md_337 [10006, 60120, 60118, 60119] = true := by decide +kernel
theorem mf_338 : a_mfc 1 md_338 [10006, 60140, 60138, 60139] = true := by decide +kernel
theorem mf_339 : a_mfc 1 md_339 [10001, 60116, 60114, 60115] = true := by decide +kernel
theorem mf_340 : a_mfc 0 md_340 [10000, 60111, 60110] = true := by decide +kernel
theorem mf_341 : a_mfc 1 md_341 [10016, 90125, 90123, 90124] = true := by decide +kernel
theorem mf_342 : a_mfc 1 md_342 [10001, 60155, 60154, 33] = true := by decide +kernel
theorem mf_343 : a_mfc 1 md_343 [10001, 60151, 60150, 32] = true := by decide +kernel
theorem mf_344 : a_mfc 1 md_344 [10001, 60159, 60158, 34] = true := by decide +kernel
theorem mf_345 : a_mfc 1 md_345 [10001, 60147, 60145, 60146] = true := by decide +kernel
theorem mf_346 : a_mfc 0 md_346 [10000, 60143, 60142] = true := by decide +kernel
theorem mf_347 : a_mfc 1 md_347 [10016, 90133, 90132, 116] = true := by decide +kernel
theorem mf_348 : a_mfc 1 md_348 [10016, 90138, 90137, 117] = true := by decide +kernel
theorem mf_349 : a_mfc 1 md_349 [10016, 90129, 90127, 90128] = true := by decide +kernel
theorem mf_350 : a_mfc 1 md_350 [10001, 40191, 40189, 40190] = true := by decide +kernel
theorem mf_351 : a_mfc 1 md_351 [10016, 90142, 90140, 90141] = true := by decide +kernel
theorem mf_352 : a_mfc 1 md_352 [10009, 40199, 40197, 40198] = true := by decide +kernel
theorem mf_353 : a_mfc 1 md_353 [10001, 40195, 40193, 40194] = true := by decide +kernel
theorem mf_354 : a_mfc 1 md_354 [10016, 90146, 90144, 90145] = true := by decide +kernel
theorem mf_355 : a_mfc 1 md_355 [10001, 60166, 60164, 60165] = true := by decide +kernel
theorem mf_356 : a_mfc 0 md_356 [10000, 60162, 60161] = true := by decide +kernel
theorem mf_357 : a_mfc 1 md_357 [10016, 90150, 90148, 90149] = true := by decide +kernel
def a_MK0 : List (Nat × a_Md) := [(2, md_0), (2, md_1), (2, md_2), (2, md_3), (2, md_4), (2, md_5), (2, md_6), (2, md_7), (1, md_8), (1, md_9), (1, md_10), (1, md_11), (1, md_12), (1, md_13), (1, md_14), (1, md_15), (1, md_16), (1, md_17), (1, md_18), (1, md_19)]
theorem a_hMK0 : ∀ z ∈ a_MK0, a_mf z.1 z.2 := by
  unfold a_MK0
  refine List.forall_mem_cons.mpr ⟨a_mfc_ok mf_0, List.forall_mem_cons.mpr ⟨a_mfc_ok mf_1, List.forall_mem_cons.mpr ⟨a_mfc_ok mf_2, List.forall_mem_cons.mpr ⟨a_mfc_ok mf_3, List.forall_mem_cons.mpr ⟨a_mfc_ok mf_4, List.forall_mem_cons.mpr ⟨a_mfc_ok mf_5, List.forall_mem_cons.mpr ⟨a_mfc_ok mf_6, List.forall_mem_cons.mpr ⟨a_mfc_ok mf_7, List.forall_mem_cons.mpr ⟨a_mfc_ok mf_8, List.forall_mem_cons.mpr ⟨a_mfc_ok mf_9, List.forall_mem_cons.mpr ⟨a_mfc_ok mf_10, List.forall_mem_cons.mpr ⟨a_mfc_ok mf_11, List.forall_mem_cons.mpr ⟨a_mfc_ok mf_12, List.forall_mem_cons.mpr ⟨a_mfc_ok mf_13, List.forall_mem_cons.mpr ⟨a_mfc_ok mf_14, List.forall_mem_cons.mpr ⟨a_mfc_ok mf_15, List.forall_mem_cons.mpr ⟨a_mfc_ok mf_16, List.forall_mem_cons.mpr ⟨a_mfc_ok mf_17, List.forall_mem_cons.mpr ⟨a_mfc_ok mf_18, List.forall_mem_cons.mpr ⟨a_mfc_ok mf_19, fun z hz => nomatch hz⟩⟩⟩⟩⟩⟩⟩⟩⟩⟩⟩⟩⟩⟩⟩⟩⟩⟩⟩⟩
def a_MK1 : List (Nat × a_Md) := [(1, md_20), (1, md_21), (1, md_22), (1, md_23), (1, md_24), (1, md_25), (1, md_26), (1, md_27), (1, md_28), (1, md_29), (1, md_30), (1, md_31), (1, md_32), (1, md_33), (2, md_34), (1, md_35), (0, md_36), (1, md_37), (1, md_38), (1, md_39)]
theorem a_hMK1 : ∀ z ∈ a_MK1, a_mf z.1 z.2 := by
  unfold a_MK1
  refine List.forall_mem_cons.mpr ⟨a_mfc_ok mf_20, List.forall_mem_cons.mpr ⟨a_mfc_ok mf_21, List.forall_mem_cons.mpr ⟨a_mfc_ok mf_22, List.forall_mem_cons.mpr ⟨a_mfc_ok mf_23, List.forall_mem_cons.mpr ⟨a_mfc_ok mf_24, List.forall_mem_cons.mpr ⟨a_mfc_ok mf_25, List.forall_mem_cons.mpr ⟨a_mfc_ok mf_26, List.forall_mem_cons.mpr ⟨a_mfc_ok mf_27, List.forall_mem_cons.mpr ⟨a_mfc_ok mf_28, List.forall_mem_cons.mpr ⟨a_mfc_ok mf_29, List.forall_mem_cons.mpr ⟨a_mfc_ok mf_30, List.forall_mem_cons.mpr ⟨a_mfc_ok mf_31, List.forall_mem_cons.mpr ⟨a_mfc_ok mf_32, List.forall_mem_cons.mpr ⟨a_mfc_ok mf_33, List.forall_mem_cons.mpr ⟨a_mfc_ok mf_34, List.forall_mem_cons.mpr ⟨a_mfc_ok mf_35, List.forall_mem_cons.mpr ⟨a_mfc_ok mf_36, List.forall_mem_cons.mpr ⟨a_mfc_ok mf_37, List.forall_mem_cons.mpr ⟨a_mfc_ok mf_38, List.forall_mem_cons.mpr ⟨a_mfc_ok mf_39, fun z hz => nomatch hz⟩⟩⟩⟩⟩⟩⟩⟩⟩⟩⟩⟩⟩⟩⟩⟩⟩⟩⟩⟩
def a_MK2 : List (Nat × a_Md) := [(2, md_40), (1, md_41), (1, md_42), (1, md_43), (1, md_44), (1, md_45), (0, md_46), (1, md_47), (1, md_48), (1, md_49), (1, md_50), (1, md_51), (1, md_52), (1, md_53), (1, md_54), (1, md_55), (1, md_56), (1, md_57), (1, md_58), (1, md_59)]
theorem a_hMK2 : ∀ z ∈ a_MK2, a_mf z.1 z.2 := by
  unfold a_MK2
  refine List.forall_mem_cons.mpr ⟨a_mfc_ok mf_40, List.forall_mem_cons.mpr ⟨a_mfc_ok mf_41, List.forall_mem_cons.mpr ⟨a_mfc_ok mf_42, List.forall_mem_cons.mpr ⟨a_mfc_ok mf_43, List.forall_mem_cons.mpr ⟨a_mfc_ok mf_44, List.forall_mem_cons.mpr ⟨a_mfc_ok mf_45, List.forall_mem_cons.mpr ⟨a_mfc_ok mf_46, List.forall_mem_cons.mpr ⟨a_mfc_ok mf_47, List.forall_mem_cons.mpr ⟨a_mfc_ok mf_48, List.forall_mem_cons.mpr ⟨a_mfc_ok mf_49, List.forall_mem_cons.mpr ⟨a_mfc_ok mf_50, List.forall_mem_cons.mpr ⟨a_mfc_ok mf_51, List.forall_mem_cons.mpr ⟨a_mfc_ok mf_52, List.forall_mem_cons.mpr ⟨a_mfc_ok mf_53, List.forall_mem_cons.mpr ⟨a_mfc_ok mf_54, List.forall_mem_cons.mpr ⟨a_mfc_ok mf_55, List.forall_mem_cons.mpr ⟨a_mfc_ok mf_56, List.forall_mem_cons.mpr ⟨a_mfc_ok mf_57, List.forall_mem_cons.mpr ⟨a_mfc_ok mf_58, List.forall_mem_cons.mpr ⟨a_mfc_ok mf_59, fun z hz => nomatch hz⟩⟩⟩⟩⟩⟩⟩⟩⟩⟩⟩⟩⟩⟩⟩⟩⟩⟩⟩⟩
def a_MK3 : List (Nat × a_Md) := [(1, md_60), (1, md_61), (1, md_62), (1, md_63), (1, md_64), (1, md_65), (0, md_66), (0, md_67), (0, md_68), (0, md_69), (1, md_70), (1, md_71), (1, md_72), (1, md_73), (1, md_74), (1, md_75), (1, md_76), (0, md_77), (0, md_78), (1, md_79)]
theorem a_hMK3 : ∀ z ∈ a_MK3, a_mf z.1 z.2 := by
  unfold a_MK3
  refine List.forall_mem_cons.mpr ⟨a_mfc_ok mf_60, List.forall_mem_cons.mpr ⟨a_mfc_ok mf_61, List.forall_mem_cons.mpr ⟨a_mfc_ok mf_62, List.forall_mem_cons.mpr ⟨a_mfc_ok mf_63, List.forall_mem_cons.mpr ⟨a_mfc_ok mf_64, List.forall_mem_cons.mpr ⟨a_mfc_ok mf_65, List.forall_mem_cons.mpr ⟨a_mfc_ok mf_66, List.forall_mem_cons.mpr ⟨a_mfc_ok mf_67, List.forall_mem_cons.mpr ⟨a_mfc_ok mf_68, List.forall_mem_cons.mpr ⟨a_mfc_ok mf_69, List.forall_mem_cons.mpr ⟨a_mfc_ok mf_70, List.forall_mem_cons.mpr ⟨a_mfc_ok mf_71, List.forall_mem_cons.mpr ⟨a_mfc_ok mf_72, List.forall_mem_cons.mpr ⟨a_mfc_ok mf_73, List.forall_mem_cons.mpr ⟨a_mfc_ok mf_74, List.forall_mem_cons.mpr ⟨a_mfc_ok mf_75, List.forall_mem_cons.mpr ⟨a_mfc_ok mf_76, List.forall_mem_cons.mpr ⟨a_mfc_ok mf_77, List.forall_mem_cons.mpr ⟨a_mfc_ok mf_78, List.forall_mem_cons.mpr ⟨a_mfc_ok mf_79, fun z hz => nomatch hz⟩⟩⟩⟩⟩⟩⟩⟩⟩⟩⟩⟩⟩⟩⟩⟩⟩⟩⟩⟩
def a_MK4 : List (Nat × a_Md) := [(1, md_80), (1, md_81), (1, md_82), (1, md_83), (1, md_84), (0, md_85), (1, md_86), (1, md_87), (1, md_88), (1, md_89), (1, md_90), (1, md_91), (1, md_92), (1, md_93), (1, md_94), (0, md_95), (1, md_96), (1, md_97), (1, md_98), (1, md_99)]
theorem a_hMK4 : ∀ z ∈ a_MK4, a_mf z.1 z.2 := by
  unfold a_MK4
  refine List.forall_mem_cons.mpr ⟨a_mfc_ok mf_80, List.forall_mem_cons.mpr ⟨a_mfc_ok mf_81, List.forall_mem_cons.mpr ⟨a_mfc_ok mf_82, List.forall_mem_cons.mpr ⟨a_mfc_ok mf_83, List.forall_mem_cons.mpr ⟨a_mfc_ok mf_84, List.forall_mem_cons.mpr ⟨a_mfc_ok mf_85, List.forall_mem_cons.mpr ⟨a_mfc_ok mf_86, List.forall_mem_cons.mpr ⟨a_mfc_ok mf_87, List.forall_mem_cons.mpr ⟨a_mfc_ok mf_88, List.forall_mem_cons.mpr ⟨a_mfc_ok mf_89, List.forall_mem_cons.mpr ⟨a_mfc_ok mf_90, List.forall_mem_cons.mpr ⟨a_mfc_ok mf_91, List.forall_mem_cons.mpr ⟨a_mfc_ok mf_92, List.forall_mem_cons.mpr ⟨a_mfc_ok mf_93, List.forall_mem_cons.mpr ⟨a_mfc_ok mf_94, List.forall_mem_cons.mpr ⟨a_mfc_ok mf_95, List.forall_mem_cons.mpr ⟨a_mfc_ok mf_96, List.forall_mem_cons.mpr ⟨a_mfc_ok mf_97, List.forall_mem_cons.mpr ⟨a_mfc_ok mf_98, List.forall_mem_cons.mpr ⟨a_mfc_ok mf_99, fun z hz => nomatch hz⟩⟩⟩⟩⟩⟩⟩⟩⟩⟩⟩⟩⟩⟩⟩⟩⟩⟩⟩⟩
def a_MK5 : List (Nat × a_Md) := [(0, md_100), (1, md_101), (0, md_102), (1, md_103), (1, md_104), (1, md_105), (1, md_106), (1, md_107), (1, md_108), (1, md_109), (0, md_110), (1, md_111), (1, md_112), (1, md_113), (1, md_114), (1, md_115), (1, md_116), (1, md_117), (1, md_118), (0, md_119)]
theorem a_hMK5 : ∀ z ∈ a_MK5, a_mf z.1 z.2 := by
  unfold a_MK5
  refine List.forall_mem_cons.mpr ⟨a_mfc_ok mf_100, List.forall_mem_cons.mpr ⟨a_mfc_ok mf_101, List.forall_mem_cons.mpr ⟨a_mfc_ok mf_102, List.forall_mem_cons.mpr ⟨a_mfc_ok mf_103, List.forall_mem_cons.mpr ⟨a_mfc_ok mf_104, List.forall_mem_cons.mpr ⟨a_mfc_ok mf_105, List.forall_mem_cons.mpr ⟨a_mfc_ok mf_106, List.forall_mem_cons.mpr ⟨a_mfc_ok mf_107, List.forall_mem_cons.mpr ⟨a_mfc_ok mf_108, List.forall_mem_cons.mpr ⟨a_mfc_ok mf_109, List.forall_mem_cons.mpr ⟨a_mfc_ok mf_110, List.forall_mem_cons.mpr ⟨a_mfc_ok mf_111, List.forall_mem_cons.mpr ⟨a_mfc_ok mf_112, List.forall_mem_cons.mpr ⟨a_mfc_ok mf_113, List.forall_mem_cons.mpr ⟨a_mfc_ok mf_114, List.forall_mem_cons.mpr ⟨a_mfc_ok mf_115, List.forall_mem_cons.mpr ⟨a_mfc_ok mf_116, List.forall_mem_cons.mpr ⟨a_mfc_ok mf_117, List.forall_mem_cons.mpr ⟨a_mfc_ok mf_118, List.forall_mem_cons.mpr ⟨a_mfc_ok mf_119, fun z hz => nomatch hz⟩⟩⟩⟩⟩⟩⟩⟩⟩⟩⟩⟩⟩⟩⟩⟩⟩⟩⟩⟩
def a_MK6 : List (Nat × a_Md) := [(1, md_120), (1, md_121), (1, md_122), (1, md_123), (1, md_124), (1, md_125), (0, md_126), (1, md_127), (1, md_128), (1, md_129), (1, md_130), (0, md_131), (1, md_132), (1, md_133), (1, md_134), (1, md_135), (1, md_136), (1, md_137), (1, md_138), (1, md_139)]
theorem a_hMK6 : ∀ z ∈ a_MK6, a_mf z.1 z.2 := by
  unfold a_MK6
  refine List.forall_mem_cons.mpr ⟨a_mfc_ok mf_120, List.forall_mem_cons.mpr ⟨a_mfc_ok mf_121, List.forall_mem_cons.mpr ⟨a_mfc_ok mf_122, List.forall_mem_cons.mpr ⟨a_mfc_ok mf_123, List.forall_mem_cons.mpr ⟨a_mfc_ok mf_124, List.forall_mem_cons.mpr ⟨a_mfc_ok mf_125, List.forall_mem_cons.mpr ⟨a_mfc_ok mf_126, List.forall_mem_cons.mpr ⟨a_mfc_ok mf_127, List.forall_mem_cons.mpr ⟨a_mfc_ok mf_128, List.forall_mem_cons.mpr ⟨a_mfc_ok mf_129, List.forall_mem_cons.mpr ⟨a_mfc_ok mf_130, List.forall_mem_cons.mpr ⟨a_mfc_ok mf_131, List.forall_mem_cons.mpr ⟨a_mfc_ok mf_132, List.forall_mem_cons.mpr ⟨a_mfc_ok mf_133, List.forall_mem_cons.mpr ⟨a_mfc_ok mf_134, List.forall_mem_cons.mpr ⟨a_mfc_ok mf_135, List.forall_mem_cons.mpr ⟨a_mfc_ok mf_136, List.forall_mem_cons.mpr ⟨a_mfc_ok mf_137, List.forall_mem_cons.mpr ⟨a_mfc_ok mf_138, List.forall_mem_cons.mpr ⟨a_mfc_ok mf_139, fun z hz => nomatch hz⟩⟩⟩⟩⟩⟩⟩⟩⟩⟩⟩⟩⟩⟩⟩⟩⟩⟩⟩⟩
def a_MK7 : List (Nat × a_Md) := [(1, md_140), (1, md_141), (1, md_142), (1, md_143), (1, md_144), (1, md_145), (1, md_146), (1, md_147), (1, md_148), (1, md_149), (0, md_150), (0, md_151), (1, md_152), (1, md_153), (1, md_154), (1, md_155), (1, md_156), (1, md_157), (1, md_158), (1, md_159)]
theorem a_hMK7 : ∀ z ∈ a_MK7, a_mf z.1 z.2 := by
  unfold a_MK7
  refine List.forall_mem_cons.mpr ⟨a_mfc_ok mf_140, List.forall_mem_cons.mpr ⟨a_mfc_ok mf_141, List.forall_mem_cons.mpr ⟨a_mfc_ok mf_142, List.forall_mem_cons.mpr ⟨a_mfc_ok mf_143, List.forall_mem_cons.mpr ⟨a_mfc_ok mf_144, List.forall_mem_cons.mpr ⟨a_mfc_ok mf_145, List.forall_mem_cons.mpr ⟨a_mfc_ok mf_146, List.forall_mem_cons.mpr ⟨a_mfc_ok mf_147, List.forall_mem_cons.mpr ⟨a_mfc_ok mf_148, List.forall_mem_cons.mpr ⟨a_mfc_ok mf_149, List.forall_mem_cons.mpr ⟨a_mfc_ok mf_150, List.forall_mem_cons.mpr ⟨a_mfc_ok mf_151, List.forall_mem_cons.mpr ⟨a_mfc_ok mf_152, List.forall_mem_cons.mpr ⟨a_mfc_ok mf_153, List.forall_mem_cons.mpr ⟨a_mfc_ok mf_154, List.forall_mem_cons.mpr ⟨a_mfc_ok mf_155, List.forall_mem_cons.mpr ⟨a_mfc_ok mf_156, List.forall_mem_cons.mpr ⟨a_mfc_ok mf_157, List.forall_mem_cons.mpr ⟨a_mfc_ok mf_158, List.forall_mem_cons.mpr ⟨a_mfc_ok mf_159, fun z hz => nomatch hz⟩⟩⟩⟩⟩⟩⟩⟩⟩⟩⟩⟩⟩⟩⟩⟩⟩⟩⟩⟩
def a_MK8 : List (Nat × a_Md) := [(1, md_160), (1, md_161), (1, md_162), (1, md_163), (1, md_164), (1, md_165), (1, md_166), (1, md_167), (1, md_168), (1, md_169), (1, md_170), (0, md_171), (1, md_172), (1, md_173), (0, md_174), (1, md_175), (1, md_176), (1, md_177), (1, md_178), (1, md_179)]
theorem a_hMK8 : ∀ z ∈ a_MK8, a_mf z.1 z.2 := by
  unfold a_MK8
  refine List.forall_mem_cons.mpr ⟨a_mfc_ok mf_160, List.forall_mem_cons.mpr ⟨a_mfc_ok mf_161, List.forall_mem_cons.mpr ⟨a_mfc_ok mf_162, List.forall_mem_cons.mpr ⟨a_mfc_ok mf_163, List.forall_mem_cons.mpr ⟨a_mfc_ok mf_164, List.forall_mem_cons.mpr ⟨a_mfc_ok mf_165, List.forall_mem_cons.mpr ⟨a_mfc_ok mf_166, List.forall_mem_cons.mpr ⟨a_mfc_ok mf_167, List.forall_mem_cons.mpr ⟨a_mfc_ok mf_168, List.forall_mem_cons.mpr ⟨a_mfc_ok mf_169, List.forall_mem_cons.mpr ⟨a_mfc_ok mf_170, List.forall_mem_cons.mpr ⟨a_mfc_ok mf_171, List.forall_mem_cons.mpr ⟨a_mfc_ok mf_172, List.forall_mem_cons.mpr ⟨a_mfc_ok mf_173, List.forall_mem_cons.mpr ⟨a_mfc_ok mf_174, List.forall_mem_cons.mpr ⟨a_mfc_ok mf_175, List.forall_mem_cons.mpr ⟨a_mfc_ok mf_176, List.forall_mem_cons.mpr ⟨a_mfc_ok mf_177, List.forall_mem_cons.mpr ⟨a_mfc_ok mf_178, List.forall_mem_cons.mpr ⟨a_mfc_ok mf_179, fun z hz => nomatch hz⟩⟩⟩⟩⟩⟩⟩⟩⟩⟩⟩⟩⟩⟩⟩⟩⟩⟩⟩⟩
def a_MK9 : List (Nat × a_Md) := [(0, md_180), (1, md_181), (1, md_182), (0, md_183), (1, md_184), (1, md_185), (1, md_186), (1, md_187), (0, md_188), (1, md_189), (1, md_190), (1, md_191), (0, md_192), (1, md_193), (1, md_194), (1, md_195), (1, md_196), (1, md_197), (0, md_198), (1, md_199)]
theorem a_hMK9 : ∀ z ∈ a_MK9, a_mf z.1 z.2 := by
  unfold a_MK9
  refine List.forall_mem_cons.mpr ⟨a_mfc_ok mf_180, List.forall_mem_cons.mpr ⟨a_mfc_ok mf_181, List.forall_mem_cons.mpr ⟨a_mfc_ok mf_182, List.forall_mem_cons.mpr ⟨a_mfc_ok mf_183, List.forall_mem_cons.mpr ⟨a_mfc_ok mf_184, List.forall_mem_cons.mpr ⟨a_mfc_ok mf_185, List.forall_mem_cons.mpr ⟨a_mfc_ok mf_186, List.forall_mem_cons.mpr ⟨a_mfc_ok mf_187, List.forall_mem_cons.mpr ⟨a_mfc_ok mf_188, List.forall_mem_cons.mpr ⟨a_mfc_ok mf_189, List.forall_mem_cons.mpr ⟨a_mfc_ok mf_190, List.forall_mem_cons.mpr ⟨a_mfc_ok mf_191, List.forall_mem_cons.mpr ⟨a_mfc_ok mf_192, List.forall_mem_cons.mpr ⟨a_mfc_ok mf_193, List.forall_mem_cons.mpr ⟨a_mfc_ok mf_194, List.forall_mem_cons.mpr ⟨a_mfc_ok mf_195, List.forall_mem_cons.mpr ⟨a_mfc_ok mf_196, List.forall_mem_cons.mpr ⟨a_mfc_ok mf_197, List.forall_mem_cons.mpr ⟨a_mfc_ok mf_198, List.forall_mem_cons.mpr ⟨a_mfc_ok mf_199, fun z hz => nomatch hz⟩⟩⟩⟩⟩⟩⟩⟩⟩⟩⟩⟩⟩⟩⟩⟩⟩⟩⟩⟩
def a_MK10 : List (Nat × a_Md) := [(1, md_200), (0, md_201), (1, md_202), (1, md_203), (1, md_204), (0, md_205), (1, md_206), (1, md_207), (0, md_208), (1, md_209), (1, md_210), (0, md_211), (1, md_212), (1, md_213), (0, md_214), (1, md_215), (1, md_216), (0, md_217), (1, md_218), (1, md_219)]
theorem a_hMK10 : ∀ z ∈ a_MK10, a_mf z.1 z.2 := by
  unfold a_MK10
  refine List.forall_mem_cons.mpr ⟨a_mfc_ok mf_200, List.forall_mem_cons.mpr ⟨a_mfc_ok mf_201, List.forall_mem_cons.mpr ⟨a_mfc_ok mf_202, List.forall_mem_cons.mpr ⟨a_mfc_ok mf_203, List.forall_mem_cons.mpr ⟨a_mfc_ok mf_204, List.forall_mem_cons.mpr ⟨a_mfc_ok mf_205, List.forall_mem_cons.mpr ⟨a_mfc_ok mf_206, List.forall_mem_cons.mpr ⟨a_mfc_ok mf_207, List.forall_mem_cons.mpr ⟨a_mfc_ok mf_208, List.forall_mem_cons.mpr ⟨a_mfc_ok mf_209, List.forall_mem_cons.mpr ⟨a_mfc_ok mf_210, List.forall_mem_cons.mpr ⟨a_mfc_ok mf_211, List.forall_mem_cons.mpr ⟨a_mfc_ok mf_212, List.forall_mem_cons.mpr ⟨a_mfc_ok mf_213, List.forall_mem_cons.mpr ⟨a_mfc_ok mf_214, List.forall_mem_cons.mpr ⟨a_mfc_ok mf_215, List.forall_mem_cons.mpr ⟨a_mfc_ok mf_216, List.forall_mem_cons.mpr ⟨a_mfc_ok mf_217, List.forall_mem_cons.mpr ⟨a_mfc_ok mf_218, List.forall_mem_cons.mpr ⟨a_mfc_ok mf_219, fun z hz => nomatch hz⟩⟩⟩⟩⟩⟩⟩⟩⟩⟩⟩⟩⟩⟩⟩⟩⟩⟩⟩⟩
def a_MK11 : List (Nat × a_Md) := [(0, md_220), (1, md_221), (1, md_222), (0, md_223), (1, md_224), (1, md_225), (0, md_226), (1, md_227), (1, md_228), (1, md_229), (1, md_230), (1, md_231), (0, md_232), (1, md_233), (1, md_234), (1, md_235), (1, md_236), (0, md_237), (1, md_238), (1, md_239)]
theorem a_hMK11 : ∀ z ∈ a_MK11, a_mf z.1 z.2 := by
  unfold a_MK11
  refine List.forall_mem_cons.mpr ⟨a_mfc_ok mf_220, List.forall_mem_cons.mpr ⟨a_mfc_ok mf_221, List.forall_mem_cons.mpr ⟨a_mfc_ok mf_222, List.forall_mem_cons.mpr ⟨a_mfc_ok mf_223, List.forall_mem_cons.mpr ⟨a_mfc_ok mf_224, List.forall_mem_cons.mpr ⟨a_mfc_ok mf_225, List.forall_mem_cons.mpr ⟨a_mfc_ok mf_226, List.forall_mem_cons.mpr ⟨a_mfc_ok mf_227, List.forall_mem_cons.mpr ⟨a_mfc_ok mf_228, List.forall_mem_cons.mpr ⟨a_mfc_ok mf_229, List.forall_mem_cons.mpr ⟨a_mfc_ok mf_230, List.forall_mem_cons.mpr ⟨a_mfc_ok mf_231, List.forall_mem_cons.mpr ⟨a_mfc_ok mf_232, List.forall_mem_cons.mpr ⟨a_mfc_ok mf_233, List.forall_mem_cons.mpr ⟨a_mfc_ok mf_234, List.forall_mem_cons.mpr ⟨a_mfc_ok mf_235, List.forall_mem_cons.mpr ⟨a_mfc_ok mf_236, List.forall_mem_cons.mpr ⟨a_mfc_ok mf_237, List.forall_mem_cons.mpr ⟨a_mfc_ok mf_238, List.forall_mem_cons.mpr ⟨a_mfc_ok mf_239, fun z hz => nomatch hz⟩⟩⟩⟩⟩⟩⟩⟩⟩⟩⟩⟩⟩⟩⟩⟩⟩⟩⟩⟩
def a_MK12 : List (Nat × a_Md) := [(0, md_240), (1, md_241), (1, md_242), (1, md_243), (0, md_244), (1, md_245), (1, md_246), (0, md_247), (1, md_248), (1, md_249), (0, md_250), (1, md_251), (1, md_252), (1, md_253), (1, md_254), (1, md_255), (0, md_256), (1, md_257), (1, md_258), (1, md_259)]
theorem a_hMK12 : ∀ z ∈ a_MK12, a_mf z.1 z.2 := by
  unfold a_MK12
  refine List.forall_mem_cons.mpr ⟨a_mfc_ok mf_240, List.forall_mem_cons.mpr ⟨a_mfc_ok mf_241, List.forall_mem_cons.mpr ⟨a_mfc_ok mf_242, List.forall_mem_cons.mpr ⟨a_mfc_ok mf_243, List.forall_mem_cons.mpr ⟨a_mfc_ok mf_244, List.forall_mem_cons.mpr ⟨a_mfc_ok mf_245, List.forall_mem_cons.mpr ⟨a_mfc_ok mf_246, List.forall_mem_cons.mpr ⟨a_mfc_ok mf_247, List.forall_mem_cons.mpr ⟨a_mfc_ok mf_248, List.forall_mem_cons.mpr ⟨a_mfc_ok mf_249, List.forall_mem_cons.mpr ⟨a_mfc_ok mf_250, List.forall_mem_cons.mpr ⟨a_mfc_ok mf_251, List.forall_mem_cons.mpr ⟨a_mfc_ok mf_252, List.forall_mem_cons.mpr ⟨a_mfc_ok mf_253, List.forall_mem_cons.mpr ⟨a_mfc_ok mf_254, List.forall_mem_cons.mpr ⟨a_mfc_ok mf_255, List.forall_mem_cons.mpr ⟨a_mfc_ok mf_256, List.forall_mem_cons.mpr ⟨a_mfc_ok mf_257, List.forall_mem_cons.mpr ⟨a_mfc_ok mf_258, List.forall_mem_cons.mpr ⟨a_mfc_ok mf_259, fun z hz => nomatch hz⟩⟩⟩⟩⟩⟩⟩⟩⟩⟩⟩⟩⟩⟩⟩⟩⟩⟩⟩⟩
def a_MK13 : List (Nat × a_Md) := [(0, md_260), (1, md_261), (1, md_262), (1, md_263), (1, md_264), (1, md_265), (1, md_266), (1, md_267), (1, md_268), (1, md_269), (1, md_270), (1, md_271), (1, md_272), (1, md_273), (1, md_274), (1, md_275), (1, md_276), (1, md_277), (1, md_278), (1, md_279)]
theorem a_hMK13 : ∀ z ∈ a_MK13, a_mf z.1 z.2 := by
  unfold a_MK13
  refine List.forall_mem_cons.mpr ⟨a_mfc_ok mf_260, List.forall_mem_cons.mpr ⟨a_mfc_ok mf_261, List.forall_mem_cons.mpr ⟨a_mfc_ok mf_262, List.forall_mem_cons.mpr ⟨a_mfc_ok mf_263, List.forall_mem_cons.mpr ⟨a_mfc_ok mf_264, List.forall_mem_cons.mpr ⟨a_mfc_ok mf_265, List.forall_mem_cons.mpr ⟨a_mfc_ok mf_266, List.forall_mem_cons.mpr ⟨a_mfc_ok mf_267, List.forall_mem_cons.mpr ⟨a_mfc_ok mf_268, List.forall_mem_cons.mpr ⟨a_mfc_ok mf_269, List.forall_mem_cons.mpr ⟨a_mfc_ok mf_270, List.forall_mem_cons.mpr ⟨a_mfc_ok mf_271, List.forall_mem_cons.mpr ⟨a_mfc_ok mf_272, List.forall_mem_cons.mpr ⟨a_mfc_ok mf_273, List.forall_mem_cons.mpr ⟨a_mfc_ok mf_274, List.forall_mem_cons.mpr ⟨a_mfc_ok mf_275, List.forall_mem_cons.mpr ⟨a_mfc_ok mf_276, List.forall_mem_cons.mpr ⟨a_mfc_ok mf_277, List.forall_mem_cons.mpr ⟨a_mfc_ok mf_278, List.forall_mem_cons.mpr ⟨a_mfc_ok mf_279, fun z hz => nomatch hz⟩⟩⟩⟩⟩⟩⟩⟩⟩⟩⟩⟩⟩⟩⟩⟩⟩⟩⟩⟩
def a_MK14 : List (Nat × a_Md) := [(1, md_280), (1, md_281), (1, md_282), (1, md_283), (1, md_284), (0, md_285), (1, md_286), (0, md_287), (1, md_288), (1, md_289), (0, md_290), (1, md_291), (1, md_292), (1, md_293), (0, md_294), (1, md_295), (1, md_296), (1, md_297), (0, md_298), (1, md_299)]
theorem a_hMK14 : ∀ z ∈ a_MK14, a_mf z.1 z.2 := by
  unfold a_MK14
  refine List.forall_mem_cons.mpr ⟨a_mfc_ok mf_280, List.forall_mem_cons.mpr ⟨a_mfc_ok mf_281, List.forall_mem_cons.mpr ⟨a_mfc_ok mf_282, List.forall_mem_cons.mpr ⟨a_mfc_ok mf_283, List.forall_mem_cons.mpr ⟨a_mfc_ok mf_284, List.forall_mem_cons.mpr ⟨a_mfc_ok mf_285, List.forall_mem_cons.mpr ⟨a_mfc_ok mf_286, List.forall_mem_cons.mpr ⟨a_mfc_ok mf_287, List.forall_mem_cons.mpr ⟨a_mfc_ok mf_288, List.forall_mem_cons.mpr ⟨a_mfc_ok mf_289, List.forall_mem_cons.mpr ⟨a_mfc_ok mf_290, List.forall_mem_cons.mpr ⟨a_mfc_ok mf_291, List.forall_mem_cons.mpr ⟨a_mfc_ok mf_292, List.forall_mem_cons.mpr ⟨a_mfc_ok mf_293, List.forall_mem_cons.mpr ⟨a_mfc_ok mf_294, List.forall_mem_cons.mpr ⟨a_mfc_ok mf_295, List.forall_mem_cons.mpr ⟨a_mfc_ok mf_296, List.forall_mem_cons.mpr ⟨a_mfc_ok mf_297, List.forall_mem_cons.mpr ⟨a_mfc_ok mf_298, List.forall_mem_cons.mpr ⟨a_mfc_ok mf_299, fun z hz => nomatch hz⟩⟩⟩⟩⟩⟩⟩⟩⟩⟩⟩⟩⟩⟩⟩⟩⟩⟩⟩⟩
def a_MK15 : List (Nat × a_Md) := [(1, md_300), (1, md_301), (1, md_302), (0, md_303), (0, md_304), (0, md_305), (1, md_306), (1, md_307), (1, md_308), (1, md_309), (1, md_310), (0, md_311), (1, md_312), (1, md_313), (1, md_314), (1, md_315), (1, md_316), (1, md_317), (1, md_318), (1, md_319)]
theorem a_hMK15 : ∀ z ∈ a_MK15, a_mf z.1 z.2 := by
  unfold a_MK15
  refine List.forall_mem_cons.mpr ⟨a_mfc_ok mf_300, List.forall_mem_cons.mpr ⟨a_mfc_ok mf_301, List.forall_mem_cons.mpr ⟨a_mfc_ok mf_302, List.forall_mem_cons.mpr ⟨a_mfc_ok mf_303, List.forall_mem_cons.mpr ⟨a_mfc_ok mf_304, List.forall_mem_cons.mpr ⟨a_mfc_ok mf_305, List.forall_mem_cons.mpr ⟨a_mfc_ok mf_306, List.forall_mem_cons.mpr ⟨a_mfc_ok mf_307, List.forall_mem_cons.mpr ⟨a_mfc_ok mf_308, List.forall_mem_cons.mpr ⟨a_mfc_ok mf_309, List.forall_mem_cons.mpr ⟨a_mfc_ok mf_310, List.forall_mem_cons.mpr ⟨a_mfc_ok mf_311, List.forall_mem_cons.mpr ⟨a_mfc_ok mf_312, List.forall_mem_cons.mpr ⟨a_mfc_ok mf_313, List.forall_mem_cons.mpr ⟨a_mfc_ok mf_314, List.forall_mem_cons.mpr ⟨a_mfc_ok mf_315, List.forall_mem_cons.mpr ⟨a_mfc_ok mf_316, List.forall_mem_cons.mpr ⟨a_mfc_ok mf_317, List.forall_mem_cons.mpr ⟨a_mfc_ok mf_318, List.forall_mem_cons.mpr ⟨a_mfc_ok mf_319, fun z hz => nomatch hz⟩⟩⟩⟩⟩⟩⟩⟩⟩⟩⟩⟩⟩⟩⟩⟩⟩⟩⟩⟩
def a_MK16 : List (Nat × a_Md) := [(0, md_320), (1, md_321), (1, md_322), (1, md_323), (1, md_324), (0, md_325), (1, md_326), (1, md_327), (1, md_328), (0, md_329), (1, md_330), (1, md_331), (0, md_332), (1, md_333), (1, md_334), (0, md_335), (1, md_336), (1, md_337), (1, md_338), (1, md_339)]
theorem a_hMK16 : ∀ z ∈ a_MK16, a_mf z.1 z.2 := by
  unfold a_MK16
  refine List.forall_mem_cons.mpr ⟨a_mfc_ok mf_320, List.forall_mem_cons.mpr ⟨a_mfc_ok mf_321, List.forall_mem_cons.mpr ⟨a_mfc_ok mf_322, List.forall_mem_cons.mpr ⟨a_mfc_ok mf_323, List.forall_mem_cons.mpr ⟨a_mfc_ok mf_324, List.forall_mem_cons.mpr ⟨a_mfc_ok mf_325, List.forall_mem_cons.mpr ⟨a_mfc_ok mf_326, List.forall_mem_cons.mpr ⟨a_mfc_ok mf_327, List.forall_mem_cons.mpr ⟨a_mfc_ok mf_328, List.forall_mem_cons.mpr ⟨a_mfc_ok mf_329, List.forall_mem_cons.mpr ⟨a_mfc_ok mf_330, List.forall_mem_cons.mpr ⟨a_mfc_ok mf_331, List.forall_mem_cons.mpr ⟨a_mfc_ok mf_332, List.forall_mem_cons.mpr ⟨a_mfc_ok mf_333, List.forall_mem_cons.mpr ⟨a_mfc_ok mf_334, List.forall_mem_cons.mpr ⟨a_mfc_ok mf_335, List.forall_mem_cons.mpr ⟨a_mfc_ok mf_336, List.forall_mem_cons.mpr ⟨a_mfc_ok mf_337, List.forall_mem_cons.mpr ⟨a_mfc_ok mf_338, List.forall_mem_cons.mpr ⟨a_mfc_ok mf_339, fun z hz => nomatch hz⟩⟩⟩⟩⟩⟩⟩⟩⟩⟩⟩⟩⟩⟩⟩⟩⟩⟩⟩⟩
def a_MK17 : List (Nat × a_Md) := [(0, md_340), (1, md_341), (1, md_342), (1, md_343), (1, md_344), (1, md_345), (0, md_346), (1, md_347), (1, md_348), (1, md_349), (1, md_350), (1, md_351), (1, md_352), (1, md_353), (1, md_354), (1, md_355), (0, md_356), (1, md_357)]
theorem a_hMK17 : ∀ z ∈ a_MK17, a_mf z.1 z.2 := by
  unfold a_MK17
  refine List.forall_mem_cons.mpr ⟨a_mfc_ok mf_340, List.forall_mem_cons.mpr ⟨a_mfc_ok mf_341, List.forall_mem_cons.mpr ⟨a_mfc_ok mf_342, List.forall_mem_cons.mpr ⟨a_mfc_ok mf_343, List.forall_mem_cons.mpr ⟨a_mfc_ok mf_344, List.forall_mem_cons.mpr ⟨a_mfc_ok mf_345, List.forall_mem_cons.mpr ⟨a_mfc_ok mf_346, List.forall_mem_cons.mpr ⟨a_mfc_ok mf_347, List.forall_mem_cons.mpr ⟨a_mfc_ok mf_348, List.forall_mem_cons.mpr ⟨a_mfc_ok mf_349, List.forall_mem_cons.mpr ⟨a_mfc_ok mf_350, List.forall_mem_cons.mpr ⟨a_mfc_ok mf_351, List.forall_mem_cons.mpr ⟨a_mfc_ok mf_352, List.forall_mem_cons.mpr ⟨a_mfc_ok mf_353, List.forall_mem_cons.mpr ⟨a_mfc_ok mf_354, List.forall_mem_cons.mpr ⟨a_mfc_ok mf_355, List.forall_mem_cons.mpr ⟨a_mfc_ok mf_356, List.forall_mem_cons.mpr ⟨a_mfc_ok mf_357, fun z hz => nomatch hz⟩⟩⟩⟩⟩⟩⟩⟩⟩⟩⟩⟩⟩⟩⟩⟩⟩⟩
def a_MK : List (Nat × a_Md) := a_MK0 ++ (a_MK1 ++ (a_MK2 ++ (a_MK3 ++ (a_MK4 ++ (a_MK5 ++ (a_MK6 ++ (a_MK7 ++ (a_MK8 ++ (a_MK9 ++ (a_MK10 ++ (a_MK11 ++ (a_MK12 ++ (a_MK13 ++ (a_MK14 ++ (a_MK15 ++ (a_MK16 ++ (a_MK17)))))))))))))))))
theorem a_MK_eq : a_MK = a_MK0 ++ (a_MK1 ++ (a_MK2 ++ (a_MK3 ++ (a_MK4 ++ (a_MK5 ++ (a_MK6 ++ (a_MK7 ++ (a_MK8 ++ (a_MK9 ++ (a_MK10 ++ (a_MK11 ++ (a_MK12 ++ (a_MK13 ++ (a_MK14 ++ (a_MK15 ++ (a_MK16 ++ (a_MK17))))))))))))))))) := rfl
theorem a_hMK : ∀ z ∈ a_MK, a_mf z.1 z.2 := by
  rw [a_MK_eq]
  intro z hz
  rcases List.mem_append.mp hz with hz | hz
  · exact a_hMK0 z hz
  rcases List.mem_append.mp hz with hz | hz
  · exact a_hMK1 z hz
  rcases List.mem_append.mp hz with hz | hz
  · exact a_hMK2 z hz
  rcases List.mem_append.mp hz with hz | hz
  · exact a_hMK3 z hz
  rcases List.mem_append.mp hz with hz | hz
  · exact a_hMK4 z hz
  rcases List.mem_append.mp hz with hz | hz
  · exact a_hMK5 z hz
  rcases List.mem_append.mp hz with hz | hz
  · exact a_hMK6 z hz
  rcases List.mem_append.mp hz with hz | hz
  · exact a_hMK7 z hz
  rcases List.mem_append.mp hz with hz | hz
  · exact a_hMK8 z hz
  rcases List.mem_append.mp hz with hz | hz
  · exact a_hMK9 z hz
  rcases List.mem_append.mp hz with hz | hz
  · exact a_hMK10 z hz
  rcases List.mem_append.mp hz with hz | hz
  · exact a_hMK11 z hz
  rcases List.mem_append.mp hz with hz | hz
  · exact a_hMK12 z hz
  rcases List.mem_append.mp hz with hz | hz
  · exact a_hMK13 z hz
  rcases List.mem_append.mp hz with hz | hz
  · exact a_hMK14 z hz
  rcases List.mem_append.mp hz with hz | hz
  · exact a_hMK15 z hz
  rcases List.mem_append.mp hz with hz | hz
  · exact a_hMK16 z hz
  exact a_hMK17 z hz
