/-! The rows of the large methods. -/
theorem ks_split {α : Type} {P : α → Prop} {l : List α} (a n : Nat) (h1 : ∀ z ∈ (l.drop a).take n, P z) (h2 : ∀ z ∈ l.drop (a + n), P z) : ∀ z ∈ l.drop a, P z := fun z hz => by
  rw [← List.take_append_drop n (l.drop a)] at hz
  rcases List.mem_append.mp hz with hz | hz
  · exact h1 z hz
  · rw [List.drop_drop] at hz
    exact h2 z hz
set_option maxRecDepth 100000 in
theorem ks_103_len : (m_is md_103).length = 283 := rfl
set_option maxRecDepth 100000 in
theorem kc_103_0 : a_kall a_MK md_103 (((m_is md_103).drop 0).take 60) [[], [50054], [], [30106], [], [], [50058], [], [30107], [], [], [50026], [], [30104], [], [], [50062], [], [30105], [], [], [50066], [], [30108], [], [], [50070], [], [30109], [], [], [50074], [], [30110], [], [], [50078], [], [30111], [], [], [], [], [30101], [], [], [], [], [], [], [], [], [], [], [], [30102], [], [], [], [50082]] = true := by decide +kernel
set_option maxRecDepth 100000 in
theorem kc_103_1 : a_kall a_MK md_103 (((m_is md_103).drop 60).take 60) [[], [30080], [], [], [], [], [], [], [30081], [], [], [], [30081], [], [], [], [], [], [], [], [], [], [], [], [30104], [], [], [], [50086], [], [30090], [], [], [], [], [], [50091], [], [], [40155], [], [], [], [50096], [], [30092], [], [], [], [], [], [50100], [], [], [40159], [], [], [], [50030], []] = true := by decide +kernel
set_option maxRecDepth 100000 in
theorem kc_103_2 : a_kall a_MK md_103 (((m_is md_103).drop 120).take 60) [[], [50034], [], [], [], [], [], [], [], [], [], [], [], [30105], [], [], [], [50105], [], [30094], [], [], [], [], [], [50113], [], [30095], [], [], [], [], [], [50117], [], [30096], [], [], [], [], [], [], [], [], [], [50121], [], [30096], [], [], [], [], [], [], [], [], [], [], [50125], []] = true := by decide +kernel
set_option maxRecDepth 100000 in
theorem kc_103_3 : a_kall a_MK md_103 (((m_is md_103).drop 180).take 60) [[30096], [], [], [], [], [], [], [], [], [], [], [50129], [], [30097], [], [], [], [], [], [], [30096], [], [], [], [], [], [], [30097], [], [], [], [], [], [], [], [], [], [], [30103], [], [], [], [50133], [], [30099], [], [], [], [], [], [], [], [], [], [30099], [], [], [], [], []] = true := by decide +kernel
set_option maxRecDepth 100000 in
theorem kc_103_4 : a_kall a_MK md_103 (((m_is md_103).drop 240).take 60) [[30098], [], [], [], [], [50142], [], [], [], [], [], [30082], [], [], [], [], [], [30100], [], [], [], [], [], [], [], [], [], [], [], [50150], [], [], [], [50154], [], [], [], [50162], [], [], [], [], []] = true := by decide +kernel
theorem ks_103 : ∀ z ∈ (m_is md_103).drop 0, a_oke (a_mt a_MK) md_103 z := by
  refine ks_split 0 60 (a_kall_ok a_hMK _ _ kc_103_0) ?_
  refine ks_split 60 60 (a_kall_ok a_hMK _ _ kc_103_1) ?_
  refine ks_split 120 60 (a_kall_ok a_hMK _ _ kc_103_2) ?_
  refine ks_split 180 60 (a_kall_ok a_hMK _ _ kc_103_3) ?_
  refine ks_split 240 60 (a_kall_ok a_hMK _ _ kc_103_4) ?_
  intro z hz
  rw [List.drop_eq_nil_of_le (by rw [ks_103_len]; decide)] at hz
  cases hz
theorem ko_103 : a_okm (a_mt a_MK) md_103 := ⟨by decide +kernel, ks_103, Or.inl rfl, (fun e => by cases e), fun hne => absurd rfl hne⟩
set_option maxRecDepth 100000 in
theorem ks_118_len : (m_is md_118).length = 385 := rfl
set_option maxRecDepth 100000 in
theorem kc_118_0 : a_kall a_MK md_118 (((m_is md_118).drop 0).take 60) [[], [30106], [], [], [30106], [], [], [], [], [], [], [], [30104], [], [], [], [40155], [], [], [], [30080], [], [30084], [], [], [], [], [30090], [], [], [], [], [30092], [], [], [], [], [], [30080], [], [30084], [], [], [], [], [], [30090], [], [], [], [], [], [], [30107], [], [30090], [], [], [], [30107]] = true := by decide +kernel
set_option maxRecDepth 100000 in
theorem kc_118_1 : a_kall a_MK md_118 (((m_is md_118).drop 60).take 60) [[], [], [30108], [], [30090], [], [], [], [30108], [], [], [], [], [], [], [30104], [], [], [30106], [], [30085], [], [], [], [], [30106], [], [30085], [], [], [], [30086], [], [], [], [], [], [], [30083], [], [], [], [], [], [30091], [], [], [], [], [], [], [], [], [], [30088], [], [], [], [], []] = true := by decide +kernel
set_option maxRecDepth 100000 in
theorem kc_118_2 : a_kall a_MK md_118 (((m_is md_118).drop 120).take 60) [[30089], [], [], [], [], [30091], [], [], [], [], [], [], [], [], [], [], [30106], [], [], [30106], [], [30112], [], [], [], [], [], [30103], [], [], [30099], [], [], [], [], [], [30100], [], [], [], [], [], [], [], [30100], [], [], [], [], [30082], [], [], [], [], [], [], [30098], [], [], []] = true := by decide +kernel
set_option maxRecDepth 100000 in
theorem kc_118_3 : a_kall a_MK md_118 (((m_is md_118).drop 180).take 60) [[], [], [], [30100], [], [], [], [], [30099], [], [], [], [], [], [], [], [], [], [], [30099], [], [], [], [], [30098], [], [], [], [], [30098], [], [], [], [], [], [], [], [], [], [], [], [30094], [], [], [40159], [], [], [30097], [], [], [], [], [30082], [], [], [], [], [], [], []] = true := by decide +kernel
set_option maxRecDepth 100000 in
theorem kc_118_4 : a_kall a_MK md_118 (((m_is md_118).drop 240).take 60) [[], [], [], [30096], [], [], [30097], [], [], [], [], [], [], [], [], [], [30112], [], [], [30112], [], [30096], [], [], [], [], [], [30101], [], [30111], [], [], [], [], [30111], [], [], [30111], [], [], [], [30111], [], [], [30107], [], [30097], [], [30101], [], [], [], [], [], [30101], [], [], [], [], []] = true := by decide +kernel
set_option maxRecDepth 100000 in
theorem kc_118_5 : a_kall a_MK md_118 (((m_is md_118).drop 300).take 60) [[30111], [], [], [30111], [], [], [], [], [30111], [], [], [30101], [], [], [30101], [], [], [], [], [], [], [], [], [30096], [], [], [], [], [], [30107], [], [30097], [], [], [], [30107], [], [30080], [], [30084], [], [30094], [], [], [], [], [], [], [30097], [], [], [], [], [], [30081], [], [30084], [], [30094], []] = true := by decide +kernel
set_option maxRecDepth 100000 in
theorem kc_118_6 : a_kall a_MK md_118 (((m_is md_118).drop 360).take 60) [[], [], [], [], [], [30097], [], [], [], [], [], [], [30109], [], [30097], [], [], [], [30109], [], [], [30112], [], [], []] = true := by decide +kernel
theorem ks_118 : ∀ z ∈ (m_is md_118).drop 0, a_oke (a_mt a_MK) md_118 z := by
  refine ks_split 0 60 (a_kall_ok a_hMK _ _ kc_118_0) ?_
  refine ks_split 60 60 (a_kall_ok a_hMK _ _ kc_118_1) ?_
  refine ks_split 120 60 (a_kall_ok a_hMK _ _ kc_118_2) ?_
  refine ks_split 180 60 (a_kall_ok a_hMK _ _ kc_118_3) ?_
  refine ks_split 240 60 (a_kall_ok a_hMK _ _ kc_118_4) ?_
  refine ks_split 300 60 (a_kall_ok a_hMK _ _ kc_118_5) ?_
  refine ks_split 360 60 (a_kall_ok a_hMK _ _ kc_118_6) ?_
  intro z hz
  rw [List.drop_eq_nil_of_le (by rw [ks_118_len]; decide)] at hz
  cases hz
theorem ko_118 : a_okm (a_mt a_MK) md_118 := ⟨by decide +kernel, ks_118, Or.inl rfl, (fun e => by cases e), fun hne => absurd rfl hne⟩
set_option maxRecDepth 100000 in
theorem ks_136_len : (m_is md_136).length = 314 := rfl
set_option maxRecDepth 100000 in
theorem kc_136_0 : a_kall a_MK md_136 (((m_is md_136).drop 0).take 60) [[], [], [], [30183], [], [30102], [], [], [], [], [], [30183], [], [], [], [], [], [], [], [30183], [], [], [], [], [], [], [30183], [], [], [], [], [], [], [], [], [30183], [], [], [], [], [30207], [], [], [], [40151], [], [], [], [], [], [], [], [], [30104], [], [], [], [], [30183], []] = true := by decide +kernel
set_option maxRecDepth 100000 in
theorem kc_136_1 : a_kall a_MK md_136 (((m_is md_136).drop 60).take 60) [[], [30106], [], [], [], [30183], [], [], [], [], [], [], [30183], [], [], [], [], [], [], [30183], [], [], [], [], [], [30183], [], [], [], [], [], [], [], [], [], [], [], [], [], [], [], [], [], [], [], [], [], [], [], [], [], [], [], [30080], [], [], [], [], [], []] = true := by decide +kernel
set_option maxRecDepth 100000 in
theorem kc_136_2 : a_kall a_MK md_136 (((m_is md_136).drop 120).take 60) [[], [], [], [], [], [], [], [40163], [], [], [30083], [], [], [], [], [30084], [], [], [], [], [30085], [], [], [], [], [30086], [], [], [], [], [30087], [], [], [], [], [30088], [], [], [], [], [30089], [], [], [], [], [], [30183], [], [], [], [30090], [], [], [], [], [30080], [], [], [], []] = true := by decide +kernel
set_option maxRecDepth 100000 in
theorem kc_136_3 : a_kall a_MK md_136 (((m_is md_136).drop 180).take 60) [[], [], [], [], [30107], [], [], [30107], [], [], [30108], [], [], [30108], [], [], [30104], [], [], [30104], [], [], [], [], [], [], [], [], [], [30089], [], [], [40223], [], [], [], [], [], [], [], [50017], [], [], [], [], [], [], [], [30104], [], [], [50026], [], [], [], [], [], [], [], []] = true := by decide +kernel
set_option maxRecDepth 100000 in
theorem kc_136_4 : a_kall a_MK md_136 (((m_is md_136).drop 240).take 60) [[30183], [], [30104], [], [], [], [], [50030], [], [], [50034], [], [], [], [], [], [50034], [], [], [], [], [], [], [], [], [40163], [], [], [], [50038], [], [], [], [40167], [], [], [], [], [], [], [], [], [], [], [30183], [], [], [], [30080], [], [], [], [], [], [], [], [], [30110], [], []] = true := by decide +kernel
set_option maxRecDepth 100000 in
theorem kc_136_5 : a_kall a_MK md_136 (((m_is md_136).drop 300).take 60) [[30110], [], [], [], [50042], [], [30080], [], [], [], [], [], [], []] = true := by decide +kernel
theorem ks_136 : ∀ z ∈ (m_is md_136).drop 0, a_oke (a_mt a_MK) md_136 z := by
  refine ks_split 0 60 (a_kall_ok a_hMK _ _ kc_136_0) ?_
  refine ks_split 60 60 (a_kall_ok a_hMK _ _ kc_136_1) ?_
  refine ks_split 120 60 (a_kall_ok a_hMK _ _ kc_136_2) ?_
  refine ks_split 180 60 (a_kall_ok a_hMK _ _ kc_136_3) ?_
  refine ks_split 240 60 (a_kall_ok a_hMK _ _ kc_136_4) ?_
  refine ks_split 300 60 (a_kall_ok a_hMK _ _ kc_136_5) ?_
  intro z hz
  rw [List.drop_eq_nil_of_le (by rw [ks_136_len]; decide)] at hz
  cases hz
theorem ko_136 : a_okm (a_mt a_MK) md_136 := ⟨by decide +kernel, ks_136, Or.inl rfl, (fun e => by cases e), fun hne => absurd rfl hne⟩
set_option maxRecDepth 100000 in
theorem ks_137_len : (m_is md_137).length = 167 := rfl
set_option maxRecDepth 100000 in
theorem kc_137_0 : a_kall a_MK md_137 (((m_is md_137).drop 0).take 60) [[10028, 10029, 10001], [], [10030], [], [30073, 30074, 10000], [], [30075], [], [], [], [30180], [], [], [], [], [], [], [30183], [], [30102], [], [], [], [], [], [30183], [], [], [], [30103], [], [], [], [], [], [30183], [], [30107], [50213, 50214, 10017], [], [], [50215], [], [30107], [60118], [], [60105], [], [], [], [], [], [30102], [], [], [30080], [], [], [], []] = true := by decide +kernel
set_option maxRecDepth 100000 in
theorem kc_137_1 : a_kall a_MK md_137 (((m_is md_137).drop 60).take 60) [[], [30180], [], [], [30183], [], [], [], [60104], [], [], [], [], [60105], [], [60105], [], [30080], [], [], [60118], [], [60105], [], [], [], [], [], [], [], [30103], [], [], [30082], [], [], [], [], [], [], [], [], [30183], [], [], [], [60104], [], [30082], [], [], [60118], [], [60105], [], [], [], [], [], [30186]] = true := by decide +kernel
set_option maxRecDepth 100000 in
theorem kc_137_2 : a_kall a_MK md_137 (((m_is md_137).drop 120).take 60) [[], [30072], [], [30102], [], [], [], [50050], [], [], [], [], [], [], [], [], [], [], [], [], [], [], [30180], [], [], [], [], [30180], [30203], [], [], [], [], [], [], [], [], [], [], [50050], [], [], [], [], [], [], []] = true := by decide +kernel
theorem ks_137 : ∀ z ∈ (m_is md_137).drop 0, a_oke (a_mt a_MK) md_137 z := by
  refine ks_split 0 60 (a_kall_ok a_hMK _ _ kc_137_0) ?_
  refine ks_split 60 60 (a_kall_ok a_hMK _ _ kc_137_1) ?_
  refine ks_split 120 60 (a_kall_ok a_hMK _ _ kc_137_2) ?_
  intro z hz
  rw [List.drop_eq_nil_of_le (by rw [ks_137_len]; decide)] at hz
  cases hz
theorem ko_137 : a_okm (a_mt a_MK) md_137 := ⟨by decide +kernel, ks_137, Or.inl rfl, (fun e => by cases e), fun hne => absurd rfl hne⟩
