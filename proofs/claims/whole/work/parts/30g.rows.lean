/-! The rows of the law. -/
set_option maxRecDepth 100000 in
theorem kc_20 : a_kall a_MK md_358 (((m_is md_358).drop 1600).take 20) [[], [], [], [], [90126], [], [], [70031], [], [], [], [], [], [], [], [], [], [], [], []] = true := by decide +kernel
set_option maxRecDepth 100000 in
theorem kc_21 : a_kall a_MK md_358 (((m_is md_358).drop 1620).take 20) [[], [], [], [], [], [], [], [], [], [], [40188], [], [], [], [], [], [], [90139], [], []] = true := by decide +kernel
set_option maxRecDepth 100000 in
theorem kc_22 : a_kall a_MK md_358 (((m_is md_358).drop 1640).take 20) [[], [], [40192], [], [90143], [], [], [], [], [], [60160], [], [], [90147], [], [], [70031], [], [], []] = true := by decide +kernel
set_option maxRecDepth 100000 in
theorem kc_23 : a_kall a_MK md_358 (((m_is md_358).drop 1660).take 20) [[], [], [], [], [], [], [], [], [], [], [], [], [], [], [], [], []] = true := by decide +kernel
