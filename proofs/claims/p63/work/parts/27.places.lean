/-! Places of the table, constants, kinds of the cells. -/
theorem inc_0 : f_inc (m_is md_0) = true := by decide +kernel
theorem inc_1 : f_inc (m_is md_1) = true := by decide +kernel
theorem inc_2 : f_inc (m_is md_2) = true := by decide +kernel
theorem inc_3 : f_inc (m_is md_3) = true := by decide +kernel
theorem inc_4 : f_inc (m_is md_4) = true := by decide +kernel
theorem inc_5 : f_inc (m_is md_5) = true := by decide +kernel
theorem inc_6 : f_inc (m_is md_6) = true := by decide +kernel
theorem inc_7 : f_inc (m_is md_7) = true := by decide +kernel
theorem inc_8 : f_inc (m_is md_8) = true := by decide +kernel
theorem inc_9 : f_inc (m_is md_9) = true := by decide +kernel
theorem inc_10 : f_inc (m_is md_10) = true := by decide +kernel
theorem inc_11 : f_inc (m_is md_11) = true := by decide +kernel
theorem inc_12 : f_inc (m_is md_12) = true := by decide +kernel
theorem inc_13 : f_inc (m_is md_13) = true := by decide +kernel
theorem inc_14 : f_inc (m_is md_14) = true := by decide +kernel
theorem inc_15 : f_inc (m_is md_15) = true := by decide +kernel
theorem inc_16 : f_inc (m_is md_16) = true := by decide +kernel
theorem inc_17 : f_inc (m_is md_17) = true := by decide +kernel
theorem inc_18 : f_inc (m_is md_18) = true := by decide +kernel
theorem inc_19 : f_inc (m_is md_19) = true := by decide +kernel
theorem inc_20 : f_inc (m_is md_20) = true := by decide +kernel
theorem inc_21 : f_inc (m_is md_21) = true := by decide +kernel
theorem inc_22 : f_inc (m_is md_22) = true := by decide +kernel
theorem inc_23 : f_inc (m_is md_23) = true := by decide +kernel
theorem inc_24 : f_inc (m_is md_24) = true := by decide +kernel
theorem inc_25 : f_inc (m_is md_25) = true := by decide +kernel
theorem inc_26 : f_inc (m_is md_26) = true := by decide +kernel
theorem inc_27 : f_inc (m_is md_27) = true := by decide +kernel
theorem inc_28 : f_inc (m_is md_28) = true := by decide +kernel
theorem inc_29 : f_inc (m_is md_29) = true := by decide +kernel
theorem inc_30 : f_inc (m_is md_30) = true := by decide +kernel
theorem inc_31 : f_inc (m_is md_31) = true := by decide +kernel
theorem inc_32 : f_inc (m_is md_32) = true := by decide +kernel
theorem inc_33 : f_inc (m_is md_33) = true := by decide +kernel
theorem inc_34 : f_inc (m_is md_34) = true := by decide +kernel
theorem inc_35 : f_inc (m_is md_35) = true := by decide +kernel
theorem inc_36 : f_inc (m_is md_36) = true := by decide +kernel
theorem inc_37 : f_inc (m_is md_37) = true := by decide +kernel
theorem inc_38 : f_inc (m_is md_38) = true := by decide +kernel
theorem inc_39 : f_inc (m_is md_39) = true := by decide +kernel
theorem inc_40 : f_inc (m_is md_40) = true := by decide +kernel
theorem inc_41 : f_inc (m_is md_41) = true := by decide +kernel
theorem inc_42 : f_inc (m_is md_42) = true := by decide +kernel
theorem inc_43 : f_inc (m_is md_43) = true := by decide +kernel
theorem inc_44 : f_inc (m_is md_44) = true := by decide +kernel
theorem inc_45 : f_inc (m_is md_45) = true := by decide +kernel
theorem inc_46 : f_inc (m_is md_46) = true := by decide +kernel
theorem inc_47 : f_inc (m_is md_47) = true := by decide +kernel
theorem inc_48 : f_inc (m_is md_48) = true := by decide +kernel
theorem inc_49 : f_inc (m_is md_49) = true := by decide +kernel
theorem inc_50 : f_inc (m_is md_50) = true := by decide +kernel
theorem inc_51 : f_inc (m_is md_51) = true := by decide +kernel
theorem inc_52 : f_inc (m_is md_52) = true := by decide +kernel
theorem inc_53 : f_inc (m_is md_53) = true := by decide +kernel
theorem inc_54 : f_inc (m_is md_54) = true := by decide +kernel
theorem inc_55 : f_inc (m_is md_55) = true := by decide +kernel
theorem inc_56 : f_inc (m_is md_56) = true := by decide +kernel
theorem inc_57 : f_inc (m_is md_57) = true := by decide +kernel
theorem inc_58 : f_inc (m_is md_58) = true := by decide +kernel
theorem inc_59 : f_inc (m_is md_59) = true := by decide +kernel
theorem inc_60 : f_inc (m_is md_60) = true := by decide +kernel
theorem inc_61 : f_inc (m_is md_61) = true := by decide +kernel
theorem inc_62 : f_inc (m_is md_62) = true := by decide +kernel
theorem inc_63 : f_inc (m_is md_63) = true := by decide +kernel
theorem inc_64 : f_inc (m_is md_64) = true := by decide +kernel
theorem inc_65 : f_inc (m_is md_65) = true := by decide +kernel
theorem inc_66 : f_inc (m_is md_66) = true := by decide +kernel
theorem inc_67 : f_inc (m_is md_67) = true := by decide +kernel
theorem inc_68 : f_inc (m_is md_68) = true := by decide +kernel
theorem inc_69 : f_inc (m_is md_69) = true := by decide +kernel
theorem inc_70 : f_inc (m_is md_70) = true := by decide +kernel
theorem inc_71 : f_inc (m_is md_71) = true := by decide +kernel
theorem inc_72 : f_inc (m_is md_72) = true := by decide +kernel
theorem inc_73 : f_inc (m_is md_73) = true := by decide +kernel
theorem inc_74 : f_inc (m_is md_74) = true := by decide +kernel
theorem inc_75 : f_inc (m_is md_75) = true := by decide +kernel
theorem inc_76 : f_inc (m_is md_76) = true := by decide +kernel
theorem inc_77 : f_inc (m_is md_77) = true := by decide +kernel
theorem inc_78 : f_inc (m_is md_78) = true := by decide +kernel
theorem inc_79 : f_inc (m_is md_79) = true := by decide +kernel
theorem inc_80 : f_inc (m_is md_80) = true := by decide +kernel
theorem inc_81 : f_inc (m_is md_81) = true := by decide +kernel
theorem inc_82 : f_inc (m_is md_82) = true := by decide +kernel
theorem inc_83 : f_inc (m_is md_83) = true := by decide +kernel
theorem inc_84 : f_inc (m_is md_84) = true := by decide +kernel
theorem inc_85 : f_inc (m_is md_85) = true := by decide +kernel
theorem inc_86 : f_inc (m_is md_86) = true := by decide +kernel
theorem inc_87 : f_inc (m_is md_87) = true := by decide +kernel
theorem inc_88 : f_inc (m_is md_88) = true := by decide +kernel
theorem inc_89 : f_inc (m_is md_89) = true := by decide +kernel
theorem inc_90 : f_inc (m_is md_90) = true := by decide +kernel
theorem inc_91 : f_inc (m_is md_91) = true := by decide +kernel
theorem inc_92 : f_inc (m_is md_92) = true := by decide +kernel
theorem inc_93 : f_inc (m_is md_93) = true := by decide +kernel
theorem inc_94 : f_inc (m_is md_94) = true := by decide +kernel
theorem inc_95 : f_inc (m_is md_95) = true := by decide +kernel
theorem inc_96 : f_inc (m_is md_96) = true := by decide +kernel
theorem inc_97 : f_inc (m_is md_97) = true := by decide +kernel
theorem inc_98 : f_inc (m_is md_98) = true := by decide +kernel
theorem inc_99 : f_inc (m_is md_99) = true := by decide +kernel
theorem inc_100 : f_inc (m_is md_100) = true := by decide +kernel
theorem inc_101 : f_inc (m_is md_101) = true := by decide +kernel
theorem inc_102 : f_inc (m_is md_102) = true := by decide +kernel
theorem inc_103 : f_inc (m_is md_103) = true := by decide +kernel
theorem inc_104 : f_inc (m_is md_104) = true := by decide +kernel
theorem inc_105 : f_inc (m_is md_105) = true := by decide +kernel
theorem inc_106 : f_inc (m_is md_106) = true := by decide +kernel
theorem inc_107 : f_inc (m_is md_107) = true := by decide +kernel
theorem inc_108 : f_inc (m_is md_108) = true := by decide +kernel
theorem inc_109 : f_inc (m_is md_109) = true := by decide +kernel
theorem inc_110 : f_inc (m_is md_110) = true := by decide +kernel
theorem inc_111 : f_inc (m_is md_111) = true := by decide +kernel
theorem inc_112 : f_inc (m_is md_112) = true := by decide +kernel
theorem inc_113 : f_inc (m_is md_113) = true := by decide +kernel
theorem inc_114 : f_inc (m_is md_114) = true := by decide +kernel
theorem inc_115 : f_inc (m_is md_115) = true := by decide +kernel
theorem inc_116 : f_inc (m_is md_116) = true := by decide +kernel
theorem inc_117 : f_inc (m_is md_117) = true := by decide +kernel
theorem inc_118 : f_inc (m_is md_118) = true := by decide +kernel
theorem inc_119 : f_inc (m_is md_119) = true := by decide +kernel
theorem inc_120 : f_inc (m_is md_120) = true := by decide +kernel
theorem inc_121 : f_inc (m_is md_121) = true := by decide +kernel
theorem inc_122 : f_inc (m_is md_122) = true := by decide +kernel
theorem inc_123 : f_inc (m_is md_123) = true := by decide +kernel
theorem inc_124 : f_inc (m_is md_124) = true := by decide +kernel
theorem inc_125 : f_inc (m_is md_125) = true := by decide +kernel
theorem inc_126 : f_inc (m_is md_126) = true := by decide +kernel
theorem inc_127 : f_inc (m_is md_127) = true := by decide +kernel
theorem inc_128 : f_inc (m_is md_128) = true := by decide +kernel
theorem inc_129 : f_inc (m_is md_129) = true := by decide +kernel
theorem inc_130 : f_inc (m_is md_130) = true := by decide +kernel
theorem inc_131 : f_inc (m_is md_131) = true := by decide +kernel
theorem inc_132 : f_inc (m_is md_132) = true := by decide +kernel
theorem inc_133 : f_inc (m_is md_133) = true := by decide +kernel
theorem inc_134 : f_inc (m_is md_134) = true := by decide +kernel
theorem inc_135 : f_inc (m_is md_135) = true := by decide +kernel
theorem inc_136 : f_inc (m_is md_136) = true := by decide +kernel
theorem inc_137 : f_inc (m_is md_137) = true := by decide +kernel
theorem MT_0 : a_MT 0 = some md_0 := rfl
theorem MT_1 : a_MT 1 = some md_1 := rfl
theorem MT_2 : a_MT 2 = some md_2 := rfl
theorem MT_3 : a_MT 3 = some md_3 := rfl
theorem MT_4 : a_MT 4 = some md_4 := rfl
theorem MT_5 : a_MT 5 = some md_5 := rfl
theorem MT_6 : a_MT 6 = some md_6 := rfl
theorem MT_7 : a_MT 7 = some md_7 := rfl
theorem MT_8 : a_MT 8 = some md_8 := rfl
theorem MT_9 : a_MT 9 = some md_9 := rfl
theorem MT_10 : a_MT 10 = some md_10 := rfl
theorem MT_11 : a_MT 11 = some md_11 := rfl
theorem MT_12 : a_MT 12 = some md_12 := rfl
theorem MT_13 : a_MT 13 = some md_13 := rfl
theorem MT_14 : a_MT 14 = some md_14 := rfl
theorem MT_15 : a_MT 15 = some md_15 := rfl
theorem MT_16 : a_MT 16 = some md_16 := rfl
theorem MT_17 : a_MT 17 = some md_17 := rfl
theorem MT_18 : a_MT 18 = some md_18 := rfl
theorem MT_19 : a_MT 19 = some md_19 := rfl
theorem MT_20 : a_MT 20 = some md_20 := rfl
theorem MT_21 : a_MT 21 = some md_21 := rfl
theorem MT_22 : a_MT 22 = some md_22 := rfl
theorem MT_23 : a_MT 23 = some md_23 := rfl
theorem MT_24 : a_MT 24 = some md_24 := rfl
theorem MT_25 : a_MT 25 = some md_25 := rfl
theorem MT_26 : a_MT 26 = some md_26 := rfl
theorem MT_27 : a_MT 27 = some md_27 := rfl
theorem MT_28 : a_MT 28 = some md_28 := rfl
theorem MT_29 : a_MT 29 = some md_29 := rfl
theorem MT_30 : a_MT 30 = some md_30 := rfl
theorem MT_31 : a_MT 31 = some md_31 := rfl
theorem MT_32 : a_MT 32 = some md_32 := rfl
theorem MT_33 : a_MT 33 = some md_33 := rfl
theorem MT_34 : a_MT 34 = some md_34 := rfl
theorem MT_35 : a_MT 35 = some md_35 := rfl
theorem MT_36 : a_MT 36 = some md_36 := rfl
theorem MT_37 : a_MT 37 = some md_37 := rfl
theorem MT_38 : a_MT 38 = some md_38 := rfl
theorem MT_39 : a_MT 39 = some md_39 := rfl
theorem MT_40 : a_MT 40 = some md_40 := rfl
theorem MT_41 : a_MT 41 = some md_41 := rfl
theorem MT_42 : a_MT 42 = some md_42 := rfl
theorem MT_43 : a_MT 43 = some md_43 := rfl
theorem MT_44 : a_MT 44 = some md_44 := rfl
theorem MT_45 : a_MT 45 = some md_45 := rfl
theorem MT_46 : a_MT 46 = some md_46 := rfl
theorem MT_47 : a_MT 47 = some md_47 := rfl
theorem MT_48 : a_MT 48 = some md_48 := rfl
theorem MT_49 : a_MT 49 = some md_49 := rfl
theorem MT_50 : a_MT 50 = some md_50 := rfl
theorem MT_51 : a_MT 51 = some md_51 := rfl
theorem MT_52 : a_MT 52 = some md_52 := rfl
theorem MT_53 : a_MT 53 = some md_53 := rfl
theorem MT_54 : a_MT 54 = some md_54 := rfl
theorem MT_55 : a_MT 55 = some md_55 := rfl
theorem MT_56 : a_MT 56 = some md_56 := rfl
theorem MT_57 : a_MT 57 = some md_57 := rfl
theorem MT_58 : a_MT 58 = some md_58 := rfl
theorem MT_59 : a_MT 59 = some md_59 := rfl
theorem MT_60 : a_MT 60 = some md_60 := rfl
theorem MT_61 : a_MT 61 = some md_61 := rfl
theorem MT_62 : a_MT 62 = some md_62 := rfl
theorem MT_63 : a_MT 63 = some md_63 := rfl
theorem MT_64 : a_MT 64 = some md_64 := rfl
theorem MT_65 : a_MT 65 = some md_65 := rfl
theorem MT_66 : a_MT 66 = some md_66 := rfl
theorem MT_67 : a_MT 67 = some md_67 := rfl
theorem MT_68 : a_MT 68 = some md_68 := rfl
theorem MT_69 : a_MT 69 = some md_69 := rfl
theorem MT_70 : a_MT 70 = some md_70 := rfl
theorem MT_71 : a_MT 71 = some md_71 := rfl
theorem MT_72 : a_MT 72 = some md_72 := rfl
theorem MT_73 : a_MT 73 = some md_73 := rfl
theorem MT_74 : a_MT 74 = some md_74 := rfl
theorem MT_75 : a_MT 75 = some md_75 := rfl
theorem MT_76 : a_MT 76 = some md_76 := rfl
theorem MT_77 : a_MT 77 = some md_77 := rfl
theorem MT_78 : a_MT 78 = some md_78 := rfl
theorem MT_79 : a_MT 79 = some md_79 := rfl
theorem MT_80 : a_MT 80 = some md_80 := rfl
theorem MT_81 : a_MT 81 = some md_81 := rfl
theorem MT_82 : a_MT 82 = some md_82 := rfl
theorem MT_83 : a_MT 83 = some md_83 := rfl
theorem MT_84 : a_MT 84 = some md_84 := rfl
theorem MT_85 : a_MT 85 = some md_85 := rfl
theorem MT_86 : a_MT 86 = some md_86 := rfl
theorem MT_87 : a_MT 87 = some md_87 := rfl
theorem MT_88 : a_MT 88 = some md_88 := rfl
theorem MT_89 : a_MT 89 = some md_89 := rfl
theorem MT_90 : a_MT 90 = some md_90 := rfl
theorem MT_91 : a_MT 91 = some md_91 := rfl
theorem MT_92 : a_MT 92 = some md_92 := rfl
theorem MT_93 : a_MT 93 = some md_93 := rfl
theorem MT_94 : a_MT 94 = some md_94 := rfl
theorem MT_95 : a_MT 95 = some md_95 := rfl
theorem MT_96 : a_MT 96 = some md_96 := rfl
theorem MT_97 : a_MT 97 = some md_97 := rfl
theorem MT_98 : a_MT 98 = some md_98 := rfl
theorem MT_99 : a_MT 99 = some md_99 := rfl
theorem MT_100 : a_MT 100 = some md_100 := rfl
theorem MT_101 : a_MT 101 = some md_101 := rfl
theorem MT_102 : a_MT 102 = some md_102 := rfl
theorem MT_103 : a_MT 103 = some md_103 := rfl
theorem MT_104 : a_MT 104 = some md_104 := rfl
theorem MT_105 : a_MT 105 = some md_105 := rfl
theorem MT_106 : a_MT 106 = some md_106 := rfl
theorem MT_107 : a_MT 107 = some md_107 := rfl
theorem MT_108 : a_MT 108 = some md_108 := rfl
theorem MT_109 : a_MT 109 = some md_109 := rfl
theorem MT_110 : a_MT 110 = some md_110 := rfl
theorem MT_111 : a_MT 111 = some md_111 := rfl
theorem MT_112 : a_MT 112 = some md_112 := rfl
theorem MT_113 : a_MT 113 = some md_113 := rfl
theorem MT_114 : a_MT 114 = some md_114 := rfl
theorem MT_115 : a_MT 115 = some md_115 := rfl
theorem MT_116 : a_MT 116 = some md_116 := rfl
theorem MT_117 : a_MT 117 = some md_117 := rfl
theorem MT_118 : a_MT 118 = some md_118 := rfl
theorem MT_119 : a_MT 119 = some md_119 := rfl
theorem MT_120 : a_MT 120 = some md_120 := rfl
theorem MT_121 : a_MT 121 = some md_121 := rfl
theorem MT_122 : a_MT 122 = some md_122 := rfl
theorem MT_123 : a_MT 123 = some md_123 := rfl
theorem MT_124 : a_MT 124 = some md_124 := rfl
theorem MT_125 : a_MT 125 = some md_125 := rfl
theorem MT_126 : a_MT 126 = some md_126 := rfl
theorem MT_127 : a_MT 127 = some md_127 := rfl
theorem MT_128 : a_MT 128 = some md_128 := rfl
theorem MT_129 : a_MT 129 = some md_129 := rfl
theorem MT_130 : a_MT 130 = some md_130 := rfl
theorem MT_131 : a_MT 131 = some md_131 := rfl
theorem MT_132 : a_MT 132 = some md_132 := rfl
theorem MT_133 : a_MT 133 = some md_133 := rfl
theorem MT_134 : a_MT 134 = some md_134 := rfl
theorem MT_135 : a_MT 135 = some md_135 := rfl
theorem MT_136 : a_MT 136 = some md_136 := rfl
theorem cb_6 : (Int8.ofInt (6)).toInt32 = (6 : Int32) := by decide +kernel
theorem cb_7 : (Int8.ofInt (7)).toInt32 = (7 : Int32) := by decide +kernel
theorem cb_8 : (Int8.ofInt (8)).toInt32 = (8 : Int32) := by decide +kernel
theorem cb_9 : (Int8.ofInt (9)).toInt32 = (9 : Int32) := by decide +kernel
theorem cb_10 : (Int8.ofInt (10)).toInt32 = (10 : Int32) := by decide +kernel
theorem cb_11 : (Int8.ofInt (11)).toInt32 = (11 : Int32) := by decide +kernel
theorem cb_14 : (Int8.ofInt (14)).toInt32 = (14 : Int32) := by decide +kernel
theorem cb_20 : (Int8.ofInt (20)).toInt32 = (20 : Int32) := by decide +kernel
theorem cb_24 : (Int8.ofInt (24)).toInt32 = (24 : Int32) := by decide +kernel
theorem cb_32 : (Int8.ofInt (32)).toInt32 = (32 : Int32) := by decide +kernel
theorem cb_40 : (Int8.ofInt (40)).toInt32 = (40 : Int32) := by decide +kernel
theorem cb_48 : (Int8.ofInt (48)).toInt32 = (48 : Int32) := by decide +kernel
theorem cb_50 : (Int8.ofInt (50)).toInt32 = (50 : Int32) := by decide +kernel
theorem cb_57 : (Int8.ofInt (57)).toInt32 = (57 : Int32) := by decide +kernel
theorem cb_59 : (Int8.ofInt (59)).toInt32 = (59 : Int32) := by decide +kernel
theorem cb_72 : (Int8.ofInt (72)).toInt32 = (72 : Int32) := by decide +kernel
theorem cb_97 : (Int8.ofInt (97)).toInt32 = (97 : Int32) := by decide +kernel
theorem cb_100 : (Int8.ofInt (100)).toInt32 = (100 : Int32) := by decide +kernel
theorem cb_122 : (Int8.ofInt (122)).toInt32 = (122 : Int32) := by decide +kernel
theorem ci_m8 : Int32.ofInt (-8) = (-8 : Int32) := by decide +kernel
theorem ci_m1 : Int32.ofInt (-1) = (-1 : Int32) := by decide +kernel
theorem ci_0 : Int32.ofInt (0) = (0 : Int32) := by decide +kernel
theorem ci_1 : Int32.ofInt (1) = (1 : Int32) := by decide +kernel
theorem ci_2 : Int32.ofInt (2) = (2 : Int32) := by decide +kernel
theorem ci_3 : Int32.ofInt (3) = (3 : Int32) := by decide +kernel
theorem ci_4 : Int32.ofInt (4) = (4 : Int32) := by decide +kernel
theorem ci_5 : Int32.ofInt (5) = (5 : Int32) := by decide +kernel
theorem cn_600 : Int32.ofNat 600 = (600 : Int32) := by decide +kernel
theorem cs_150 : (Int16.ofInt (150)).toInt32 = (150 : Int32) := by decide +kernel
theorem cs_500 : (Int16.ofInt (500)).toInt32 = (500 : Int32) := by decide +kernel
theorem cs_600 : (Int16.ofInt (600)).toInt32 = (600 : Int32) := by decide +kernel
theorem cs_999 : (Int16.ofInt (999)).toInt32 = (999 : Int32) := by decide +kernel
theorem cs_1000 : (Int16.ofInt (1000)).toInt32 = (1000 : Int32) := by decide +kernel
theorem cs_9999 : (Int16.ofInt (9999)).toInt32 = (9999 : Int32) := by decide +kernel
theorem sh_0 : f_shape 0 = .inr (8, [1 + 2, 0, 2 + 2, 0, 3 + 2, 5 + 2, 10 + 2, 42 + 2, 44 + 2, 102 + 2, 103 + 2, 108 + 2, 121 + 2, 135 + 2, 148 + 2, 0]) := rfl
theorem sh_1 : f_shape 1 = .inl (.byte, 600, 0) := rfl
theorem sh_2 : f_shape 2 = .inl (.byte, 16, 0) := rfl
theorem sh_3 : f_shape 3 = .inr (7, [1, 0, 0, 0, 0, 0, 0, 0]) := rfl
theorem sh_4 : f_shape 4 = .inl (.byte, 0, 0) := rfl
theorem sh_5 : f_shape 5 = .inr (6, [0, 6 + 2, 7 + 2, 8 + 2, 0, 9 + 2, 0]) := rfl
theorem sh_6 : f_shape 6 = .inl (.int, 8, 0) := rfl
theorem sh_7 : f_shape 7 = .inl (.byte, 48, 0) := rfl
theorem sh_8 : f_shape 8 = .inl (.int, 8, 0) := rfl
theorem sh_9 : f_shape 9 = .inl (.int, 3, 0) := rfl
theorem sh_10 : f_shape 10 = .inr (5, [11 + 2, 0]) := rfl
theorem sh_11 : f_shape 11 = .inl (.array .int, 30, 3) := rfl
theorem sh_42 : f_shape 42 = .inr (0, [43 + 2, 0]) := rfl
theorem sh_43 : f_shape 43 = .inl (.int, 24, 0) := rfl
theorem sh_44 : f_shape 44 = .inr (2, [45 + 2, 0, 0]) := rfl
theorem sh_45 : f_shape 45 = .inl (.object RX3, 8, 2) := rfl
theorem sh_102 : f_shape 102 = .inr (4, [103 + 2, 108 + 2, 121 + 2, 128 + 2]) := rfl
theorem sh_103 : f_shape 103 = .inr (6, [0, 104 + 2, 105 + 2, 106 + 2, 0, 107 + 2, 0]) := rfl
theorem sh_104 : f_shape 104 = .inl (.int, 8, 0) := rfl
theorem sh_105 : f_shape 105 = .inl (.byte, 48, 0) := rfl
theorem sh_106 : f_shape 106 = .inl (.int, 8, 0) := rfl
theorem sh_107 : f_shape 107 = .inl (.int, 3, 0) := rfl
theorem sh_108 : f_shape 108 = .inr (1, [109 + 2, 110 + 2, 111 + 2, 112 + 2, 113 + 2, 114 + 2, 115 + 2, 116 + 2, 117 + 2, 118 + 2, 119 + 2, 120 + 2]) := rfl
theorem sh_109 : f_shape 109 = .inl (.int, 1000, 0) := rfl
theorem sh_110 : f_shape 110 = .inl (.int, 1000, 0) := rfl
theorem sh_111 : f_shape 111 = .inl (.boolean, 20, 0) := rfl
theorem sh_112 : f_shape 112 = .inl (.int, 20, 0) := rfl
theorem sh_113 : f_shape 113 = .inl (.int, 20, 0) := rfl
theorem sh_114 : f_shape 114 = .inl (.int, 20, 0) := rfl
theorem sh_115 : f_shape 115 = .inl (.int, 20, 0) := rfl
theorem sh_116 : f_shape 116 = .inl (.int, 20, 0) := rfl
theorem sh_117 : f_shape 117 = .inl (.int, 20, 0) := rfl
theorem sh_118 : f_shape 118 = .inl (.int, 20, 0) := rfl
theorem sh_119 : f_shape 119 = .inl (.int, 20, 0) := rfl
theorem sh_120 : f_shape 120 = .inl (.int, 20, 0) := rfl
theorem sh_121 : f_shape 121 = .inr (3, [0, 0, 122 + 2, 0, 123 + 2, 0, 124 + 2, 125 + 2, 126 + 2, 127 + 2, 0, 0, 0, 0, 0]) := rfl
theorem sh_122 : f_shape 122 = .inl (.int, 8, 0) := rfl
theorem sh_123 : f_shape 123 = .inl (.boolean, 20, 0) := rfl
theorem sh_124 : f_shape 124 = .inl (.int, 20, 0) := rfl
theorem sh_125 : f_shape 125 = .inl (.int, 20, 0) := rfl
theorem sh_126 : f_shape 126 = .inl (.int, 20, 0) := rfl
theorem sh_127 : f_shape 127 = .inl (.int, 20, 0) := rfl
theorem sh_128 : f_shape 128 = .inr (3, [0, 0, 129 + 2, 0, 130 + 2, 0, 131 + 2, 132 + 2, 133 + 2, 134 + 2, 0, 0, 0, 0, 0]) := rfl
theorem sh_129 : f_shape 129 = .inl (.int, 8, 0) := rfl
theorem sh_130 : f_shape 130 = .inl (.boolean, 20, 0) := rfl
theorem sh_131 : f_shape 131 = .inl (.int, 20, 0) := rfl
theorem sh_132 : f_shape 132 = .inl (.int, 20, 0) := rfl
theorem sh_133 : f_shape 133 = .inl (.int, 20, 0) := rfl
theorem sh_134 : f_shape 134 = .inl (.int, 20, 0) := rfl
theorem sh_135 : f_shape 135 = .inr (1, [136 + 2, 137 + 2, 138 + 2, 139 + 2, 140 + 2, 141 + 2, 142 + 2, 143 + 2, 144 + 2, 145 + 2, 146 + 2, 147 + 2]) := rfl
theorem sh_136 : f_shape 136 = .inl (.int, 1000, 0) := rfl
theorem sh_137 : f_shape 137 = .inl (.int, 1000, 0) := rfl
theorem sh_138 : f_shape 138 = .inl (.boolean, 20, 0) := rfl
theorem sh_139 : f_shape 139 = .inl (.int, 20, 0) := rfl
theorem sh_140 : f_shape 140 = .inl (.int, 20, 0) := rfl
theorem sh_141 : f_shape 141 = .inl (.int, 20, 0) := rfl
theorem sh_142 : f_shape 142 = .inl (.int, 20, 0) := rfl
theorem sh_143 : f_shape 143 = .inl (.int, 20, 0) := rfl
theorem sh_144 : f_shape 144 = .inl (.int, 20, 0) := rfl
theorem sh_145 : f_shape 145 = .inl (.int, 20, 0) := rfl
theorem sh_146 : f_shape 146 = .inl (.int, 20, 0) := rfl
theorem sh_147 : f_shape 147 = .inl (.int, 20, 0) := rfl
theorem sh_148 : f_shape 148 = .inr (3, [0, 0, 149 + 2, 0, 150 + 2, 0, 151 + 2, 152 + 2, 153 + 2, 154 + 2, 0, 0, 0, 0, 0]) := rfl
theorem sh_149 : f_shape 149 = .inl (.int, 8, 0) := rfl
theorem sh_150 : f_shape 150 = .inl (.boolean, 20, 0) := rfl
theorem sh_151 : f_shape 151 = .inl (.int, 20, 0) := rfl
theorem sh_152 : f_shape 152 = .inl (.int, 20, 0) := rfl
theorem sh_153 : f_shape 153 = .inl (.int, 20, 0) := rfl
theorem sh_154 : f_shape 154 = .inl (.int, 20, 0) := rfl
theorem sh_155 : f_shape 155 = .inr (9, [156 + 2, 157 + 2, 158 + 2, 159 + 2, 160 + 2, 161 + 2, 162 + 2, 163 + 2, 164 + 2, 165 + 2, 166 + 2, 167 + 2, 168 + 2, 169 + 2, 170 + 2, 171 + 2, 172 + 2, 173 + 2, 174 + 2, 178 + 2, 179 + 2, 180 + 2, 0, 0, 0, 0, 0, 0, 0, 0, 0, 0, 0]) := rfl
theorem sh_156 : f_shape 156 = .inl (.int, 4, 0) := rfl
theorem sh_157 : f_shape 157 = .inl (.int, 4, 0) := rfl
theorem sh_158 : f_shape 158 = .inl (.int, 3, 0) := rfl
theorem sh_159 : f_shape 159 = .inl (.int, 20, 0) := rfl
theorem sh_160 : f_shape 160 = .inl (.int, 20, 0) := rfl
theorem sh_161 : f_shape 161 = .inl (.int, 20, 0) := rfl
theorem sh_162 : f_shape 162 = .inl (.int, 20, 0) := rfl
theorem sh_163 : f_shape 163 = .inl (.int, 20, 0) := rfl
theorem sh_164 : f_shape 164 = .inl (.int, 20, 0) := rfl
theorem sh_165 : f_shape 165 = .inl (.int, 20, 0) := rfl
theorem sh_166 : f_shape 166 = .inl (.int, 20, 0) := rfl
theorem sh_167 : f_shape 167 = .inl (.int, 20, 0) := rfl
theorem sh_168 : f_shape 168 = .inl (.boolean, 20, 0) := rfl
theorem sh_169 : f_shape 169 = .inl (.boolean, 20, 0) := rfl
theorem sh_170 : f_shape 170 = .inl (.int, 20, 0) := rfl
theorem sh_171 : f_shape 171 = .inl (.int, 20, 0) := rfl
theorem sh_172 : f_shape 172 = .inl (.int, 20, 0) := rfl
theorem sh_173 : f_shape 173 = .inl (.int, 20, 0) := rfl
theorem sh_174 : f_shape 174 = .inl (.array .int, 3, 4) := rfl
theorem sh_175 : f_shape 175 = .inl (.int, 20, 0) := rfl
theorem sh_176 : f_shape 176 = .inl (.int, 20, 0) := rfl
theorem sh_177 : f_shape 177 = .inl (.int, 20, 0) := rfl
theorem sh_178 : f_shape 178 = .inl (.int, 3, 0) := rfl
theorem sh_179 : f_shape 179 = .inl (.int, 3, 0) := rfl
theorem sh_180 : f_shape 180 = .inl (.int, 20, 0) := rfl
theorem sh_181 : f_shape 181 = .inl (.int, 5, 0) := rfl
theorem sh_182 : f_shape 182 = .inl (.int, 5, 0) := rfl
theorem sh_183 : f_shape 183 = .inl (.int, 5, 0) := rfl
theorem sh_184 : f_shape 184 = .inl (.int, 5, 0) := rfl
theorem sh_185 : f_shape 185 = .inl (.int, 5, 0) := rfl
