/-! The table of the methods; every row of it checked against the words. -/
theorem mf_0 : a_mfc 2 md_0 [10002, 10040, 10039] = true := by decide +kernel
theorem mf_1 : a_mfc 2 md_1 [10003, 10073, 10072] = true := by decide +kernel
theorem mf_2 : a_mfc 2 md_2 [10004, 10109, 10108] = true := by decide +kernel
theorem mf_3 : a_mfc 2 md_3 [10005, 10123, 10122] = true := by decide +kernel
theorem mf_4 : a_mfc 2 md_4 [10007, 10143, 10142] = true := by decide +kernel
theorem mf_5 : a_mfc 2 md_5 [10006, 10136, 10135] = true := by decide +kernel
theorem mf_6 : a_mfc 2 md_6 [10009, 20011, 20010] = true := by decide +kernel
theorem mf_7 : a_mfc 2 md_7 [10008, 20003, 20002] = true := by decide +kernel
theorem mf_8 : a_mfc 1 md_8 [10002, 20156, 20154, 20155] = true := by decide +kernel
theorem mf_9 : a_mfc 1 md_9 [10001, 20152, 20151, 0] = true := by decide +kernel
theorem mf_10 : a_mfc 1 md_10 [10002, 20171, 20170, 1] = true := by decide +kernel
theorem mf_11 : a_mfc 1 md_11 [10002, 20175, 20173, 20174] = true := by decide +kernel
theorem mf_12 : a_mfc 1 md_12 [10002, 20167, 20165, 20166] = true := by decide +kernel
theorem mf_13 : a_mfc 1 md_13 [10002, 20179, 20177, 20178] = true := by decide +kernel
theorem mf_14 : a_mfc 1 md_14 [10002, 20188, 20186, 20187] = true := by decide +kernel
theorem mf_15 : a_mfc 1 md_15 [10002, 20198, 20196, 20197] = true := by decide +kernel
theorem mf_16 : a_mfc 1 md_16 [10002, 20202, 20200, 20201] = true := by decide +kernel
theorem mf_17 : a_mfc 1 md_17 [10003, 20217, 20215, 20216] = true := by decide +kernel
theorem mf_18 : a_mfc 1 md_18 [10002, 20221, 20219, 20220] = true := by decide +kernel
theorem mf_19 : a_mfc 1 md_19 [10003, 20212, 20211, 4] = true := by decide +kernel
theorem mf_20 : a_mfc 1 md_20 [10003, 20208, 20206, 20207] = true := by decide +kernel
theorem mf_21 : a_mfc 1 md_21 [10003, 20225, 20224, 5] = true := by decide +kernel
theorem mf_22 : a_mfc 1 md_22 [10002, 20229, 20227, 20228] = true := by decide +kernel
theorem mf_23 : a_mfc 1 md_23 [10002, 20233, 20231, 20232] = true := by decide +kernel
theorem mf_24 : a_mfc 1 md_24 [10003, 20194, 20193, 3] = true := by decide +kernel
theorem mf_25 : a_mfc 1 md_25 [10003, 20238, 20237, 6] = true := by decide +kernel
theorem mf_26 : a_mfc 1 md_26 [10003, 30003, 30002, 7] = true := by decide +kernel
theorem mf_27 : a_mfc 1 md_27 [10003, 20183, 20182, 2] = true := by decide +kernel
theorem mf_28 : a_mfc 1 md_28 [10003, 20163, 20161, 20162] = true := by decide +kernel
theorem mf_29 : a_mfc 1 md_29 [10003, 30011, 30009, 30010] = true := by decide +kernel
theorem mf_30 : a_mfc 1 md_30 [10007, 30018, 30016, 30017] = true := by decide +kernel
theorem mf_31 : a_mfc 1 md_31 [10008, 30007, 30005, 30006] = true := by decide +kernel
theorem mf_32 : a_mfc 1 md_32 [10006, 30023, 30021, 30022] = true := by decide +kernel
theorem mf_33 : a_mfc 1 md_33 [10001, 20148, 20146, 20147] = true := by decide +kernel
theorem mf_34 : a_mfc 2 md_34 [10001, 10032, 10031] = true := by decide +kernel
theorem mf_35 : a_mfc 2 md_35 [10000, 30077, 30076] = true := by decide +kernel
theorem mf_36 : a_mfc 0 md_36 [10000, 30182, 30181] = true := by decide +kernel
theorem mf_37 : a_mfc 0 md_37 [10000, 30185, 30184] = true := by decide +kernel
theorem mf_38 : a_mfc 1 md_38 [10001, 30198, 30197, 8] = true := by decide +kernel
theorem mf_39 : a_mfc 1 md_39 [10001, 30194, 30192, 30193] = true := by decide +kernel
theorem mf_40 : a_mfc 1 md_40 [10001, 30202, 30200, 30201] = true := by decide +kernel
theorem mf_41 : a_mfc 0 md_41 [10000, 30188, 30187] = true := by decide +kernel
theorem mf_42 : a_mfc 1 md_42 [10001, 50057, 50055, 50056] = true := by decide +kernel
theorem mf_43 : a_mfc 1 md_43 [10001, 50061, 50059, 50060] = true := by decide +kernel
theorem mf_44 : a_mfc 1 md_44 [10001, 50029, 50027, 50028] = true := by decide +kernel
theorem mf_45 : a_mfc 1 md_45 [10001, 50065, 50063, 50064] = true := by decide +kernel
theorem mf_46 : a_mfc 1 md_46 [10001, 50069, 50067, 50068] = true := by decide +kernel
theorem mf_47 : a_mfc 1 md_47 [10001, 50073, 50071, 50072] = true := by decide +kernel
theorem mf_48 : a_mfc 1 md_48 [10001, 50077, 50075, 50076] = true := by decide +kernel
theorem mf_49 : a_mfc 1 md_49 [10001, 50081, 50079, 50080] = true := by decide +kernel
theorem mf_50 : a_mfc 0 md_50 [10001, 40177, 40176] = true := by decide +kernel
theorem mf_51 : a_mfc 1 md_51 [10001, 40230, 40229, 23] = true := by decide +kernel
theorem mf_52 : a_mfc 1 md_52 [10001, 50085, 50083, 50084] = true := by decide +kernel
theorem mf_53 : a_mfc 1 md_53 [10001, 40174, 40173, 21] = true := by decide +kernel
theorem mf_54 : a_mfc 0 md_54 [10001, 40095, 40094] = true := by decide +kernel
theorem mf_55 : a_mfc 0 md_55 [10001, 40098, 40097] = true := by decide +kernel
theorem mf_56 : a_mfc 1 md_56 [10009, 40092, 40090, 40091] = true := by decide +kernel
theorem mf_57 : a_mfc 1 md_57 [10001, 50089, 50087, 50088] = true := by decide +kernel
theorem mf_58 : a_mfc 1 md_58 [10009, 40084, 40082, 40083] = true := by decide +kernel
theorem mf_59 : a_mfc 1 md_59 [10008, 40080, 40078, 40079] = true := by decide +kernel
theorem mf_60 : a_mfc 1 md_60 [10001, 50094, 50092, 50093] = true := by decide +kernel
theorem mf_61 : a_mfc 1 md_61 [10000, 40158, 40157, 19] = true := by decide +kernel
theorem mf_62 : a_mfc 1 md_62 [10001, 50099, 50097, 50098] = true := by decide +kernel
theorem mf_63 : a_mfc 1 md_63 [10009, 40127, 40125, 40126] = true := by decide +kernel
theorem mf_64 : a_mfc 1 md_64 [10009, 40131, 40129, 40130] = true := by decide +kernel
theorem mf_65 : a_mfc 1 md_65 [10009, 40121, 40119, 40120] = true := by decide +kernel
theorem mf_66 : a_mfc 1 md_66 [10001, 50103, 50101, 50102] = true := by decide +kernel
theorem mf_67 : a_mfc 1 md_67 [10000, 40162, 40161, 20] = true := by decide +kernel
theorem mf_68 : a_mfc 1 md_68 [10008, 40205, 40203, 40204] = true := by decide +kernel
theorem mf_69 : a_mfc 1 md_69 [10008, 40201, 40200, 22] = true := by decide +kernel
theorem mf_70 : a_mfc 1 md_70 [10008, 40197, 40195, 40196] = true := by decide +kernel
theorem mf_71 : a_mfc 1 md_71 [10001, 50033, 50031, 50032] = true := by decide +kernel
theorem mf_72 : a_mfc 1 md_72 [10000, 50037, 50036, 27] = true := by decide +kernel
theorem mf_73 : a_mfc 1 md_73 [10001, 50112, 50111, 30] = true := by decide +kernel
theorem mf_74 : a_mfc 1 md_74 [10001, 50108, 50106, 50107] = true := by decide +kernel
theorem mf_75 : a_mfc 1 md_75 [10001, 50116, 50114, 50115] = true := by decide +kernel
theorem mf_76 : a_mfc 1 md_76 [10001, 50120, 50118, 50119] = true := by decide +kernel
theorem mf_77 : a_mfc 1 md_77 [10001, 50124, 50122, 50123] = true := by decide +kernel
theorem mf_78 : a_mfc 1 md_78 [10001, 50128, 50126, 50127] = true := by decide +kernel
theorem mf_79 : a_mfc 1 md_79 [10001, 50132, 50130, 50131] = true := by decide +kernel
theorem mf_80 : a_mfc 1 md_80 [10001, 50140, 50139, 31] = true := by decide +kernel
theorem mf_81 : a_mfc 1 md_81 [10008, 40110, 40109, 14] = true := by decide +kernel
theorem mf_82 : a_mfc 1 md_82 [10008, 40218, 40216, 40217] = true := by decide +kernel
theorem mf_83 : a_mfc 1 md_83 [10001, 50136, 50134, 50135] = true := by decide +kernel
theorem mf_84 : a_mfc 0 md_84 [10008, 40117, 40116] = true := by decide +kernel
theorem mf_85 : a_mfc 1 md_85 [10008, 50149, 50147, 50148] = true := by decide +kernel
theorem mf_86 : a_mfc 1 md_86 [10001, 50145, 50143, 50144] = true := by decide +kernel
theorem mf_87 : a_mfc 1 md_87 [10001, 50153, 50151, 50152] = true := by decide +kernel
theorem mf_88 : a_mfc 1 md_88 [10008, 40146, 40145, 17] = true := by decide +kernel
theorem mf_89 : a_mfc 1 md_89 [10008, 50161, 50159, 50160] = true := by decide +kernel
theorem mf_90 : a_mfc 1 md_90 [10001, 50157, 50155, 50156] = true := by decide +kernel
theorem mf_91 : a_mfc 1 md_91 [10003, 50176, 50174, 50175] = true := by decide +kernel
theorem mf_92 : a_mfc 0 md_92 [10005, 50172, 50171] = true := by decide +kernel
theorem mf_93 : a_mfc 0 md_93 [10005, 50179, 50178] = true := by decide +kernel
theorem mf_94 : a_mfc 0 md_94 [10005, 50182, 50181] = true := by decide +kernel
theorem mf_95 : a_mfc 1 md_95 [10005, 50197, 50196, 34] = true := by decide +kernel
theorem mf_96 : a_mfc 1 md_96 [10005, 50201, 50200, 35] = true := by decide +kernel
theorem mf_97 : a_mfc 1 md_97 [10005, 50206, 50205, 36] = true := by decide +kernel
theorem mf_98 : a_mfc 1 md_98 [10005, 50191, 50190, 33] = true := by decide +kernel
theorem mf_99 : a_mfc 1 md_99 [10005, 50187, 50186, 32] = true := by decide +kernel
theorem mf_100 : a_mfc 0 md_100 [10005, 50211, 50210] = true := by decide +kernel
theorem mf_101 : a_mfc 1 md_101 [10005, 50169, 50167, 50168] = true := by decide +kernel
theorem mf_102 : a_mfc 1 md_102 [10001, 50165, 50163, 50164] = true := by decide +kernel
theorem mg_103 : a_mf 1 md_103 := ⟨w_g_in (jo := 10000) (by decide +kernel), List.mem_filter.mpr ⟨a_ch_in 5 (List.mem_of_getElem? (i := 53) rfl), rfl⟩, by decide, rfl, (fun e => by cases e), (fun _ => ⟨w_g_in (jo := 50052) (by decide +kernel), w_g_in (jo := 29) (by decide +kernel)⟩), (fun e => by cases e), fun e => by cases e⟩
theorem mf_104 : a_mfc 0 md_104 [10001, 30213, 30212] = true := by decide +kernel
theorem mf_105 : a_mfc 1 md_105 [10008, 40044, 40042, 40043] = true := by decide +kernel
theorem mf_106 : a_mfc 1 md_106 [10007, 40068, 40066, 40067] = true := by decide +kernel
theorem mf_107 : a_mfc 1 md_107 [10006, 40064, 40062, 40063] = true := by decide +kernel
theorem mf_108 : a_mfc 1 md_108 [10007, 40102, 40100, 40101] = true := by decide +kernel
theorem mf_109 : a_mfc 1 md_109 [10008, 40088, 40087, 12] = true := by decide +kernel
theorem mf_110 : a_mfc 1 md_110 [10008, 40076, 40075, 11] = true := by decide +kernel
theorem mf_111 : a_mfc 1 md_111 [10008, 40106, 40105, 13] = true := by decide +kernel
theorem mf_112 : a_mfc 1 md_112 [10007, 40138, 40136, 40137] = true := by decide +kernel
theorem mf_113 : a_mfc 1 md_113 [10008, 40114, 40113, 15] = true := by decide +kernel
theorem mf_114 : a_mfc 1 md_114 [10007, 40150, 40148, 40149] = true := by decide +kernel
theorem mf_115 : a_mfc 1 md_115 [10008, 40142, 40141, 16] = true := by decide +kernel
theorem mf_116 : a_mfc 1 md_116 [10008, 40072, 40070, 40071] = true := by decide +kernel
theorem mf_117 : a_mfc 1 md_117 [10001, 30210, 30208, 30209] = true := by decide +kernel
theorem mg_118 : a_mf 1 md_118 := ⟨w_g_in (jo := 10000) (by decide +kernel), List.mem_filter.mpr ⟨a_ch_in 4 (List.mem_of_getElem? (i := 154) rfl), rfl⟩, by decide, rfl, (fun e => by cases e), (fun _ => ⟨w_g_in (jo := 40153) (by decide +kernel), w_g_in (jo := 18) (by decide +kernel)⟩), (fun e => by cases e), fun e => by cases e⟩
theorem mf_119 : a_mfc 1 md_119 [10008, 40214, 40212, 40213] = true := by decide +kernel
theorem mf_120 : a_mfc 1 md_120 [10007, 40222, 40220, 40221] = true := by decide +kernel
theorem mf_121 : a_mfc 1 md_121 [10008, 40210, 40208, 40209] = true := by decide +kernel
theorem mf_122 : a_mfc 1 md_122 [10001, 40170, 40168, 40169] = true := by decide +kernel
theorem mf_123 : a_mfc 1 md_123 [10001, 40234, 40233, 24] = true := by decide +kernel
theorem mf_124 : a_mfc 1 md_124 [10008, 50003, 50001, 50002] = true := by decide +kernel
theorem mf_125 : a_mfc 1 md_125 [10001, 40239, 40238, 25] = true := by decide +kernel
theorem mf_126 : a_mfc 1 md_126 [10007, 50012, 50010, 50011] = true := by decide +kernel
theorem mf_127 : a_mfc 1 md_127 [10008, 50016, 50015, 26] = true := by decide +kernel
theorem mf_128 : a_mfc 1 md_128 [10008, 50008, 50006, 50007] = true := by decide +kernel
theorem mf_129 : a_mfc 1 md_129 [10001, 40226, 40224, 40225] = true := by decide +kernel
theorem mf_130 : a_mfc 1 md_130 [10008, 50025, 50023, 50024] = true := by decide +kernel
theorem mf_131 : a_mfc 1 md_131 [10001, 50020, 50018, 50019] = true := by decide +kernel
theorem mf_132 : a_mfc 0 md_132 [10000, 40165, 40164] = true := by decide +kernel
theorem mf_133 : a_mfc 1 md_133 [10000, 50041, 50040, 28] = true := by decide +kernel
theorem mf_134 : a_mfc 1 md_134 [10007, 50049, 50047, 50048] = true := by decide +kernel
theorem mf_135 : a_mfc 1 md_135 [10001, 50045, 50043, 50044] = true := by decide +kernel
theorem mg_136 : a_mf 1 md_136 := ⟨w_g_in (jo := 10000) (by decide +kernel), List.mem_filter.mpr ⟨a_ch_in 3 (List.mem_of_getElem? (i := 206) rfl), rfl⟩, by decide, rfl, (fun e => by cases e), (fun _ => ⟨w_g_in (jo := 30205) (by decide +kernel), w_g_in (jo := 9) (by decide +kernel)⟩), (fun e => by cases e), fun e => by cases e⟩
theorem mf_200 : a_mfc 2 md_200 [10017, 50217, 50216] = true := by decide +kernel
theorem mf_201 : a_mfc 2 md_201 [10016, 50220, 50219] = true := by decide +kernel
theorem mf_202 : a_mfc 3 md_202 [10017, 50238, 50237] = true := by decide +kernel
theorem mf_203 : a_mfc 1 md_203 [10017, 60002, 60000, 60001] = true := by decide +kernel
theorem mf_204 : a_mfc 3 md_204 [10016, 60005, 50234] = true := by decide +kernel
theorem mf_205 : a_mfc 3 md_205 [10016, 60013, 60012] = true := by decide +kernel
theorem mf_206 : a_mfc 3 md_206 [10016, 60017, 60016] = true := by decide +kernel
theorem mf_207 : a_mfc 0 md_207 [10018, 60020, 60019] = true := by decide +kernel
theorem mf_208 : a_mfc 0 md_208 [10019, 60028, 60027] = true := by decide +kernel
theorem mf_209 : a_mfc 3 md_209 [10016, 60062, 60061] = true := by decide +kernel
theorem mf_210 : a_mfc 3 md_210 [10016, 60066, 60065] = true := by decide +kernel
theorem mf_211 : a_mfc 1 md_211 [10017, 60108, 60106, 60107] = true := by decide +kernel
theorem mf_212 : a_mfc 3 md_212 [10016, 60111, 60110] = true := by decide +kernel
theorem mf_213 : a_mfc 3 md_213 [10016, 60042, 60039] = true := by decide +kernel
theorem mf_214 : a_mfc 0 md_214 [10011, 60114, 60113] = true := by decide +kernel
theorem mf_215 : a_mfc 1 md_215 [10017, 60121, 60119, 60120] = true := by decide +kernel
theorem mf_216 : a_mfc 3 md_216 [10016, 60124, 60123] = true := by decide +kernel
theorem mf_217 : a_mfc 0 md_217 [10021, 60127, 60126] = true := by decide +kernel
theorem mf_218 : a_mfc 0 md_218 [10021, 60130, 60129] = true := by decide +kernel
def a_MK0 : List (Nat × a_Md) := [(2, md_0), (2, md_1), (2, md_2), (2, md_3), (2, md_4), (2, md_5), (2, md_6), (2, md_7), (1, md_8), (1, md_9), (1, md_10), (1, md_11), (1, md_12), (1, md_13), (1, md_14), (1, md_15), (1, md_16), (1, md_17), (1, md_18), (1, md_19)]
theorem a_hMK0 : ∀ z ∈ a_MK0, a_mf z.1 z.2 := by
  unfold a_MK0
  refine List.forall_mem_cons.mpr ⟨a_mfc_ok mf_0, List.forall_mem_cons.mpr ⟨a_mfc_ok mf_1, List.forall_mem_cons.mpr ⟨a_mfc_ok mf_2, List.forall_mem_cons.mpr ⟨a_mfc_ok mf_3, List.forall_mem_cons.mpr ⟨a_mfc_ok mf_4, List.forall_mem_cons.mpr ⟨a_mfc_ok mf_5, List.forall_mem_cons.mpr ⟨a_mfc_ok mf_6, List.forall_mem_cons.mpr ⟨a_mfc_ok mf_7, List.forall_mem_cons.mpr ⟨a_mfc_ok mf_8, List.forall_mem_cons.mpr ⟨a_mfc_ok mf_9, List.forall_mem_cons.mpr ⟨a_mfc_ok mf_10, List.forall_mem_cons.mpr ⟨a_mfc_ok mf_11, List.forall_mem_cons.mpr ⟨a_mfc_ok mf_12, List.forall_mem_cons.mpr ⟨a_mfc_ok mf_13, List.forall_mem_cons.mpr ⟨a_mfc_ok mf_14, List.forall_mem_cons.mpr ⟨a_mfc_ok mf_15, List.forall_mem_cons.mpr ⟨a_mfc_ok mf_16, List.forall_mem_cons.mpr ⟨a_mfc_ok mf_17, List.forall_mem_cons.mpr ⟨a_mfc_ok mf_18, List.forall_mem_cons.mpr ⟨a_mfc_ok mf_19, fun z hz => nomatch hz⟩⟩⟩⟩⟩⟩⟩⟩⟩⟩⟩⟩⟩⟩⟩⟩⟩⟩⟩⟩
def a_MK1 : List (Nat × a_Md) := [(1, md_20), (1, md_21), (1, md_22), (1, md_23), (1, md_24), (1, md_25), (1, md_26), (1, md_27), (1, md_28), (1, md_29), (1, md_30), (1, md_31), (1, md_32), (1, md_33), (2, md_34), (2, md_35), (0, md_36), (0, md_37), (1, md_38), (1, md_39)]
theorem a_hMK1 : ∀ z ∈ a_MK1, a_mf z.1 z.2 := by
  unfold a_MK1
  refine List.forall_mem_cons.mpr ⟨a_mfc_ok mf_20, List.forall_mem_cons.mpr ⟨a_mfc_ok mf_21, List.forall_mem_cons.mpr ⟨a_mfc_ok mf_22, List.forall_mem_cons.mpr ⟨a_mfc_ok mf_23, List.forall_mem_cons.mpr ⟨a_mfc_ok mf_24, List.forall_mem_cons.mpr ⟨a_mfc_ok mf_25, List.forall_mem_cons.mpr ⟨a_mfc_ok mf_26, List.forall_mem_cons.mpr ⟨a_mfc_ok mf_27, List.forall_mem_cons.mpr ⟨a_mfc_ok mf_28, List.forall_mem_cons.mpr ⟨a_mfc_ok mf_29, List.forall_mem_cons.mpr ⟨a_mfc_ok mf_30, List.forall_mem_cons.mpr ⟨a_mfc_ok mf_31, List.forall_mem_cons.mpr ⟨a_mfc_ok mf_32, List.forall_mem_cons.mpr ⟨a_mfc_ok mf_33, List.forall_mem_cons.mpr ⟨a_mfc_ok mf_34, List.forall_mem_cons.mpr ⟨a_mfc_ok mf_35, List.forall_mem_cons.mpr ⟨a_mfc_ok mf_36, List.forall_mem_cons.mpr ⟨a_mfc_ok mf_37, List.forall_mem_cons.mpr ⟨a_mfc_ok mf_38, List.forall_mem_cons.mpr ⟨a_mfc_ok mf_39, fun z hz => nomatch hz⟩⟩⟩⟩⟩⟩⟩⟩⟩⟩⟩⟩⟩⟩⟩⟩⟩⟩⟩⟩
def a_MK2 : List (Nat × a_Md) := [(1, md_40), (0, md_41), (1, md_42), (1, md_43), (1, md_44), (1, md_45), (1, md_46), (1, md_47), (1, md_48), (1, md_49), (0, md_50), (1, md_51), (1, md_52), (1, md_53), (0, md_54), (0, md_55), (1, md_56), (1, md_57), (1, md_58), (1, md_59)]
theorem a_hMK2 : ∀ z ∈ a_MK2, a_mf z.1 z.2 := by
  unfold a_MK2
  refine List.forall_mem_cons.mpr ⟨a_mfc_ok mf_40, List.forall_mem_cons.mpr ⟨a_mfc_ok mf_41, List.forall_mem_cons.mpr ⟨a_mfc_ok mf_42, List.forall_mem_cons.mpr ⟨a_mfc_ok mf_43, List.forall_mem_cons.mpr ⟨a_mfc_ok mf_44, List.forall_mem_cons.mpr ⟨a_mfc_ok mf_45, List.forall_mem_cons.mpr ⟨a_mfc_ok mf_46, List.forall_mem_cons.mpr ⟨a_mfc_ok mf_47, List.forall_mem_cons.mpr ⟨a_mfc_ok mf_48, List.forall_mem_cons.mpr ⟨a_mfc_ok mf_49, List.forall_mem_cons.mpr ⟨a_mfc_ok mf_50, List.forall_mem_cons.mpr ⟨a_mfc_ok mf_51, List.forall_mem_cons.mpr ⟨a_mfc_ok mf_52, List.forall_mem_cons.mpr ⟨a_mfc_ok mf_53, List.forall_mem_cons.mpr ⟨a_mfc_ok mf_54, List.forall_mem_cons.mpr ⟨a_mfc_ok mf_55, List.forall_mem_cons.mpr ⟨a_mfc_ok mf_56, List.forall_mem_cons.mpr ⟨a_mfc_ok mf_57, List.forall_mem_cons.mpr ⟨a_mfc_ok mf_58, List.forall_mem_cons.mpr ⟨a_mfc_ok mf_59, fun z hz => nomatch hz⟩⟩⟩⟩⟩⟩⟩⟩⟩⟩⟩⟩⟩⟩⟩⟩⟩⟩⟩⟩
def a_MK3 : List (Nat × a_Md) := [(1, md_60), (1, md_61), (1, md_62), (1, md_63), (1, md_64), (1, md_65), (1, md_66), (1, md_67), (1, md_68), (1, md_69), (1, md_70), (1, md_71), (1, md_72), (1, md_73), (1, md_74), (1, md_75), (1, md_76), (1, md_77), (1, md_78), (1, md_79)]
theorem a_hMK3 : ∀ z ∈ a_MK3, a_mf z.1 z.2 := by
  unfold a_MK3
  refine List.forall_mem_cons.mpr ⟨a_mfc_ok mf_60, List.forall_mem_cons.mpr ⟨a_mfc_ok mf_61, List.forall_mem_cons.mpr ⟨a_mfc_ok mf_62, List.forall_mem_cons.mpr ⟨a_mfc_ok mf_63, List.forall_mem_cons.mpr ⟨a_mfc_ok mf_64, List.forall_mem_cons.mpr ⟨a_mfc_ok mf_65, List.forall_mem_cons.mpr ⟨a_mfc_ok mf_66, List.forall_mem_cons.mpr ⟨a_mfc_ok mf_67, List.forall_mem_cons.mpr ⟨a_mfc_ok mf_68, List.forall_mem_cons.mpr ⟨a_mfc_ok mf_69, List.forall_mem_cons.mpr ⟨a_mfc_ok mf_70, List.forall_mem_cons.mpr ⟨a_mfc_ok mf_71, List.forall_mem_cons.mpr ⟨a_mfc_ok mf_72, List.forall_mem_cons.mpr ⟨a_mfc_ok mf_73, List.forall_mem_cons.mpr ⟨a_mfc_ok mf_74, List.forall_mem_cons.mpr ⟨a_mfc_ok mf_75, List.forall_mem_cons.mpr ⟨a_mfc_ok mf_76, List.forall_mem_cons.mpr ⟨a_mfc_ok mf_77, List.forall_mem_cons.mpr ⟨a_mfc_ok mf_78, List.forall_mem_cons.mpr ⟨a_mfc_ok mf_79, fun z hz => nomatch hz⟩⟩⟩⟩⟩⟩⟩⟩⟩⟩⟩⟩⟩⟩⟩⟩⟩⟩⟩⟩
def a_MK4 : List (Nat × a_Md) := [(1, md_80), (1, md_81), (1, md_82), (1, md_83), (0, md_84), (1, md_85), (1, md_86), (1, md_87), (1, md_88), (1, md_89), (1, md_90), (1, md_91), (0, md_92), (0, md_93), (0, md_94), (1, md_95), (1, md_96), (1, md_97), (1, md_98), (1, md_99)]
theorem a_hMK4 : ∀ z ∈ a_MK4, a_mf z.1 z.2 := by
  unfold a_MK4
  refine List.forall_mem_cons.mpr ⟨a_mfc_ok mf_80, List.forall_mem_cons.mpr ⟨a_mfc_ok mf_81, List.forall_mem_cons.mpr ⟨a_mfc_ok mf_82, List.forall_mem_cons.mpr ⟨a_mfc_ok mf_83, List.forall_mem_cons.mpr ⟨a_mfc_ok mf_84, List.forall_mem_cons.mpr ⟨a_mfc_ok mf_85, List.forall_mem_cons.mpr ⟨a_mfc_ok mf_86, List.forall_mem_cons.mpr ⟨a_mfc_ok mf_87, List.forall_mem_cons.mpr ⟨a_mfc_ok mf_88, List.forall_mem_cons.mpr ⟨a_mfc_ok mf_89, List.forall_mem_cons.mpr ⟨a_mfc_ok mf_90, List.forall_mem_cons.mpr ⟨a_mfc_ok mf_91, List.forall_mem_cons.mpr ⟨a_mfc_ok mf_92, List.forall_mem_cons.mpr ⟨a_mfc_ok mf_93, List.forall_mem_cons.mpr ⟨a_mfc_ok mf_94, List.forall_mem_cons.mpr ⟨a_mfc_ok mf_95, List.forall_mem_cons.mpr ⟨a_mfc_ok mf_96, List.forall_mem_cons.mpr ⟨a_mfc_ok mf_97, List.forall_mem_cons.mpr ⟨a_mfc_ok mf_98, List.forall_mem_cons.mpr ⟨a_mfc_ok mf_99, fun z hz => nomatch hz⟩⟩⟩⟩⟩⟩⟩⟩⟩⟩⟩⟩⟩⟩⟩⟩⟩⟩⟩⟩
def a_MK5 : List (Nat × a_Md) := [(0, md_100), (1, md_101), (1, md_102), (1, md_103), (0, md_104), (1, md_105), (1, md_106), (1, md_107), (1, md_108), (1, md_109), (1, md_110), (1, md_111), (1, md_112), (1, md_113), (1, md_114), (1, md_115), (1, md_116), (1, md_117), (1, md_118), (1, md_119)]
theorem a_hMK5 : ∀ z ∈ a_MK5, a_mf z.1 z.2 := by
  unfold a_MK5
  refine List.forall_mem_cons.mpr ⟨a_mfc_ok mf_100, List.forall_mem_cons.mpr ⟨a_mfc_ok mf_101, List.forall_mem_cons.mpr ⟨a_mfc_ok mf_102, List.forall_mem_cons.mpr ⟨mg_103, List.forall_mem_cons.mpr ⟨a_mfc_ok mf_104, List.forall_mem_cons.mpr ⟨a_mfc_ok mf_105, List.forall_mem_cons.mpr ⟨a_mfc_ok mf_106, List.forall_mem_cons.mpr ⟨a_mfc_ok mf_107, List.forall_mem_cons.mpr ⟨a_mfc_ok mf_108, List.forall_mem_cons.mpr ⟨a_mfc_ok mf_109, List.forall_mem_cons.mpr ⟨a_mfc_ok mf_110, List.forall_mem_cons.mpr ⟨a_mfc_ok mf_111, List.forall_mem_cons.mpr ⟨a_mfc_ok mf_112, List.forall_mem_cons.mpr ⟨a_mfc_ok mf_113, List.forall_mem_cons.mpr ⟨a_mfc_ok mf_114, List.forall_mem_cons.mpr ⟨a_mfc_ok mf_115, List.forall_mem_cons.mpr ⟨a_mfc_ok mf_116, List.forall_mem_cons.mpr ⟨a_mfc_ok mf_117, List.forall_mem_cons.mpr ⟨mg_118, List.forall_mem_cons.mpr ⟨a_mfc_ok mf_119, fun z hz => nomatch hz⟩⟩⟩⟩⟩⟩⟩⟩⟩⟩⟩⟩⟩⟩⟩⟩⟩⟩⟩⟩
def a_MK6 : List (Nat × a_Md) := [(1, md_120), (1, md_121), (1, md_122), (1, md_123), (1, md_124), (1, md_125), (1, md_126), (1, md_127), (1, md_128), (1, md_129), (1, md_130), (1, md_131), (0, md_132), (1, md_133), (1, md_134), (1, md_135), (1, md_136), (2, md_200), (2, md_201), (3, md_202)]
theorem a_hMK6 : ∀ z ∈ a_MK6, a_mf z.1 z.2 := by
  unfold a_MK6
  refine List.forall_mem_cons.mpr ⟨a_mfc_ok mf_120, List.forall_mem_cons.mpr ⟨a_mfc_ok mf_121, List.forall_mem_cons.mpr ⟨a_mfc_ok mf_122, List.forall_mem_cons.mpr ⟨a_mfc_ok mf_123, List.forall_mem_cons.mpr ⟨a_mfc_ok mf_124, List.forall_mem_cons.mpr ⟨a_mfc_ok mf_125, List.forall_mem_cons.mpr ⟨a_mfc_ok mf_126, List.forall_mem_cons.mpr ⟨a_mfc_ok mf_127, List.forall_mem_cons.mpr ⟨a_mfc_ok mf_128, List.forall_mem_cons.mpr ⟨a_mfc_ok mf_129, List.forall_mem_cons.mpr ⟨a_mfc_ok mf_130, List.forall_mem_cons.mpr ⟨a_mfc_ok mf_131, List.forall_mem_cons.mpr ⟨a_mfc_ok mf_132, List.forall_mem_cons.mpr ⟨a_mfc_ok mf_133, List.forall_mem_cons.mpr ⟨a_mfc_ok mf_134, List.forall_mem_cons.mpr ⟨a_mfc_ok mf_135, List.forall_mem_cons.mpr ⟨mg_136, List.forall_mem_cons.mpr ⟨a_mfc_ok mf_200, List.forall_mem_cons.mpr ⟨a_mfc_ok mf_201, List.forall_mem_cons.mpr ⟨a_mfc_ok mf_202, fun z hz => nomatch hz⟩⟩⟩⟩⟩⟩⟩⟩⟩⟩⟩⟩⟩⟩⟩⟩⟩⟩⟩⟩
def a_MK7 : List (Nat × a_Md) := [(1, md_203), (3, md_204), (3, md_205), (3, md_206), (0, md_207), (0, md_208), (3, md_209), (3, md_210), (1, md_211), (3, md_212), (3, md_213), (0, md_214), (1, md_215), (3, md_216), (0, md_217), (0, md_218)]
theorem a_hMK7 : ∀ z ∈ a_MK7, a_mf z.1 z.2 := by
  unfold a_MK7
  refine List.forall_mem_cons.mpr ⟨a_mfc_ok mf_203, List.forall_mem_cons.mpr ⟨a_mfc_ok mf_204, List.forall_mem_cons.mpr ⟨a_mfc_ok mf_205, List.forall_mem_cons.mpr ⟨a_mfc_ok mf_206, List.forall_mem_cons.mpr ⟨a_mfc_ok mf_207, List.forall_mem_cons.mpr ⟨a_mfc_ok mf_208, List.forall_mem_cons.mpr ⟨a_mfc_ok mf_209, List.forall_mem_cons.mpr ⟨a_mfc_ok mf_210, List.forall_mem_cons.mpr ⟨a_mfc_ok mf_211, List.forall_mem_cons.mpr ⟨a_mfc_ok mf_212, List.forall_mem_cons.mpr ⟨a_mfc_ok mf_213, List.forall_mem_cons.mpr ⟨a_mfc_ok mf_214, List.forall_mem_cons.mpr ⟨a_mfc_ok mf_215, List.forall_mem_cons.mpr ⟨a_mfc_ok mf_216, List.forall_mem_cons.mpr ⟨a_mfc_ok mf_217, List.forall_mem_cons.mpr ⟨a_mfc_ok mf_218, fun z hz => nomatch hz⟩⟩⟩⟩⟩⟩⟩⟩⟩⟩⟩⟩⟩⟩⟩⟩
def a_MK : List (Nat × a_Md) := a_MK0 ++ (a_MK1 ++ (a_MK2 ++ (a_MK3 ++ (a_MK4 ++ (a_MK5 ++ (a_MK6 ++ (a_MK7)))))))
theorem a_MK_eq : a_MK = a_MK0 ++ (a_MK1 ++ (a_MK2 ++ (a_MK3 ++ (a_MK4 ++ (a_MK5 ++ (a_MK6 ++ (a_MK7))))))) := rfl
theorem a_hMK : ∀ z ∈ a_MK, a_mf z.1 z.2 := by
  rw [a_MK_eq]
  intro z hz
  rcases List.mem_append.mp hz with hz | hz
  · exact a_hMK0 z hz
  rcases List.mem_append.mp hz with hz | hz
  · exact a_hMK1 z hz
  rcases List.mem_append.mp hz with hz | hz
  · exact a_hMK2 z hz
  rcases List.mem_append.mp hz with hz | hz
  · exact a_hMK3 z hz
  rcases List.mem_append.mp hz with hz | hz
  · exact a_hMK4 z hz
  rcases List.mem_append.mp hz with hz | hz
  · exact a_hMK5 z hz
  rcases List.mem_append.mp hz with hz | hz
  · exact a_hMK6 z hz
  exact a_hMK7 z hz
