/-! The table is good. -/
def a_MT : Nat → Option a_Md := a_mt a_MK
theorem a_mt_mem {P : a_Md → Prop} {MK : List (Nat × a_Md)} (h : ∀ z ∈ MK, P z.2) : ∀ i y, a_mt MK i = some y → P y := fun i y hy => by
  obtain ⟨k, hk⟩ := a_mt_some hy
  exact h _ (List.mem_of_getElem? hk)
theorem a_oMK0 : ∀ z ∈ a_MK0, a_okm (a_mt a_MK) z.2 := by
  unfold a_MK0
  refine List.forall_mem_cons.mpr ⟨a_km_ok a_hMK km_0, List.forall_mem_cons.mpr ⟨a_km_ok a_hMK km_1, List.forall_mem_cons.mpr ⟨a_km_ok a_hMK km_2, List.forall_mem_cons.mpr ⟨a_km_ok a_hMK km_3, List.forall_mem_cons.mpr ⟨a_km_ok a_hMK km_4, List.forall_mem_cons.mpr ⟨a_km_ok a_hMK km_5, List.forall_mem_cons.mpr ⟨a_km_ok a_hMK km_6, List.forall_mem_cons.mpr ⟨a_km_ok a_hMK km_7, List.forall_mem_cons.mpr ⟨a_km_ok a_hMK km_8, List.forall_mem_cons.mpr ⟨a_km_ok a_hMK km_9, List.forall_mem_cons.mpr ⟨a_km_ok a_hMK km_10, List.forall_mem_cons.mpr ⟨a_km_ok a_hMK km_11, List.forall_mem_cons.mpr ⟨a_km_ok a_hMK km_12, List.forall_mem_cons.mpr ⟨a_km_ok a_hMK km_13, List.forall_mem_cons.mpr ⟨a_km_ok a_hMK km_14, List.forall_mem_cons.mpr ⟨a_km_ok a_hMK km_15, List.forall_mem_cons.mpr ⟨a_km_ok a_hMK km_16, List.forall_mem_cons.mpr ⟨a_km_ok a_hMK km_17, List.forall_mem_cons.mpr ⟨a_km_ok a_hMK km_18, List.forall_mem_cons.mpr ⟨a_km_ok a_hMK km_19, fun z hz => nomatch hz⟩⟩⟩⟩⟩⟩⟩⟩⟩⟩⟩⟩⟩⟩⟩⟩⟩⟩⟩⟩
theorem a_oMK1 : ∀ z ∈ a_MK1, a_okm (a_mt a_MK) z.2 := by
  unfold a_MK1
  refine List.forall_mem_cons.mpr ⟨a_km_ok a_hMK km_20, List.forall_mem_cons.mpr ⟨a_km_ok a_hMK km_21, List.forall_mem_cons.mpr ⟨a_km_ok a_hMK km_22, List.forall_mem_cons.mpr ⟨a_km_ok a_hMK km_23, List.forall_mem_cons.mpr ⟨a_km_ok a_hMK km_24, List.forall_mem_cons.mpr ⟨a_km_ok a_hMK km_25, List.forall_mem_cons.mpr ⟨a_km_ok a_hMK km_26, List.forall_mem_cons.mpr ⟨a_km_ok a_hMK km_27, List.forall_mem_cons.mpr ⟨a_km_ok a_hMK km_28, List.forall_mem_cons.mpr ⟨a_km_ok a_hMK km_29, List.forall_mem_cons.mpr ⟨a_km_ok a_hMK km_30, List.forall_mem_cons.mpr ⟨a_km_ok a_hMK km_31, List.forall_mem_cons.mpr ⟨a_km_ok a_hMK km_32, List.forall_mem_cons.mpr ⟨a_km_ok a_hMK km_33, List.forall_mem_cons.mpr ⟨a_km_ok a_hMK km_34, List.forall_mem_cons.mpr ⟨a_km_ok a_hMK km_35, List.forall_mem_cons.mpr ⟨a_km_ok a_hMK km_36, List.forall_mem_cons.mpr ⟨a_km_ok a_hMK km_37, List.forall_mem_cons.mpr ⟨a_km_ok a_hMK km_38, List.forall_mem_cons.mpr ⟨a_km_ok a_hMK km_39, fun z hz => nomatch hz⟩⟩⟩⟩⟩⟩⟩⟩⟩⟩⟩⟩⟩⟩⟩⟩⟩⟩⟩⟩
theorem a_oMK2 : ∀ z ∈ a_MK2, a_okm (a_mt a_MK) z.2 := by
  unfold a_MK2
  refine List.forall_mem_cons.mpr ⟨a_km_ok a_hMK km_40, List.forall_mem_cons.mpr ⟨a_km_ok a_hMK km_41, List.forall_mem_cons.mpr ⟨a_km_ok a_hMK km_42, List.forall_mem_cons.mpr ⟨a_km_ok a_hMK km_43, List.forall_mem_cons.mpr ⟨a_km_ok a_hMK km_44, List.forall_mem_cons.mpr ⟨a_km_ok a_hMK km_45, List.forall_mem_cons.mpr ⟨a_km_ok a_hMK km_46, List.forall_mem_cons.mpr ⟨a_km_ok a_hMK km_47, List.forall_mem_cons.mpr ⟨a_km_ok a_hMK km_48, List.forall_mem_cons.mpr ⟨a_km_ok a_hMK km_49, List.forall_mem_cons.mpr ⟨a_km_ok a_hMK km_50, List.forall_mem_cons.mpr ⟨a_km_ok a_hMK km_51, List.forall_mem_cons.mpr ⟨a_km_ok a_hMK km_52, List.forall_mem_cons.mpr ⟨a_km_ok a_hMK km_53, List.forall_mem_cons.mpr ⟨a_km_ok a_hMK km_54, List.forall_mem_cons.mpr ⟨a_km_ok a_hMK km_55, List.forall_mem_cons.mpr ⟨a_km_ok a_hMK km_56, List.forall_mem_cons.mpr ⟨a_km_ok a_hMK km_57, List.forall_mem_cons.mpr ⟨a_km_ok a_hMK km_58, List.forall_mem_cons.mpr ⟨a_km_ok a_hMK km_59, fun z hz => nomatch hz⟩⟩⟩⟩⟩⟩⟩⟩⟩⟩⟩⟩⟩⟩⟩⟩⟩⟩⟩⟩
theorem a_oMK3 : ∀ z ∈ a_MK3, a_okm (a_mt a_MK) z.2 := by
  unfold a_MK3
  refine List.forall_mem_cons.mpr ⟨a_km_ok a_hMK km_60, List.forall_mem_cons.mpr ⟨a_km_ok a_hMK km_61, List.forall_mem_cons.mpr ⟨a_km_ok a_hMK km_62, List.forall_mem_cons.mpr ⟨a_km_ok a_hMK km_63, List.forall_mem_cons.mpr ⟨a_km_ok a_hMK km_64, List.forall_mem_cons.mpr ⟨a_km_ok a_hMK km_65, List.forall_mem_cons.mpr ⟨a_km_ok a_hMK km_66, List.forall_mem_cons.mpr ⟨a_km_ok a_hMK km_67, List.forall_mem_cons.mpr ⟨a_km_ok a_hMK km_68, List.forall_mem_cons.mpr ⟨a_km_ok a_hMK km_69, List.forall_mem_cons.mpr ⟨a_km_ok a_hMK km_70, List.forall_mem_cons.mpr ⟨a_km_ok a_hMK km_71, List.forall_mem_cons.mpr ⟨a_km_ok a_hMK km_72, List.forall_mem_cons.mpr ⟨a_km_ok a_hMK km_73, List.forall_mem_cons.mpr ⟨a_km_ok a_hMK km_74, List.forall_mem_cons.mpr ⟨a_km_ok a_hMK km_75, List.forall_mem_cons.mpr ⟨a_km_ok a_hMK km_76, List.forall_mem_cons.mpr ⟨a_km_ok a_hMK km_77, List.forall_mem_cons.mpr ⟨a_km_ok a_hMK km_78, List.forall_mem_cons.mpr ⟨a_km_ok a_hMK km_79, fun z hz => nomatch hz⟩⟩⟩⟩⟩⟩⟩⟩⟩⟩⟩⟩⟩⟩⟩⟩⟩⟩⟩⟩
theorem a_oMK4 : ∀ z ∈ a_MK4, a_okm (a_mt a_MK) z.2 := by
  unfold a_MK4
  refine List.forall_mem_cons.mpr ⟨a_km_ok a_hMK km_80, List.forall_mem_cons.mpr ⟨a_km_ok a_hMK km_81, List.forall_mem_cons.mpr ⟨a_km_ok a_hMK km_82, List.forall_mem_cons.mpr ⟨a_km_ok a_hMK km_83, List.forall_mem_cons.mpr ⟨a_km_ok a_hMK km_84, List.forall_mem_cons.mpr ⟨a_km_ok a_hMK km_85, List.forall_mem_cons.mpr ⟨a_km_ok a_hMK km_86, List.forall_mem_cons.mpr ⟨a_km_ok a_hMK km_87, List.forall_mem_cons.mpr ⟨a_km_ok a_hMK km_88, List.forall_mem_cons.mpr ⟨a_km_ok a_hMK km_89, List.forall_mem_cons.mpr ⟨a_km_ok a_hMK km_90, List.forall_mem_cons.mpr ⟨a_km_ok a_hMK km_91, List.forall_mem_cons.mpr ⟨a_km_ok a_hMK km_92, List.forall_mem_cons.mpr ⟨a_km_ok a_hMK km_93, List.forall_mem_cons.mpr ⟨a_km_ok a_hMK km_94, List.forall_mem_cons.mpr ⟨a_km_ok a_hMK km_95, List.forall_mem_cons.mpr ⟨a_km_ok a_hMK km_96, List.forall_mem_cons.mpr ⟨a_km_ok a_hMK km_97, List.forall_mem_cons.mpr ⟨a_km_ok a_hMK km_98, List.forall_mem_cons.mpr ⟨a_km_ok a_hMK km_99, fun z hz => nomatch hz⟩⟩⟩⟩⟩⟩⟩⟩⟩⟩⟩⟩⟩⟩⟩⟩⟩⟩⟩⟩
theorem a_oMK5 : ∀ z ∈ a_MK5, a_okm (a_mt a_MK) z.2 := by
  unfold a_MK5
  refine List.forall_mem_cons.mpr ⟨a_km_ok a_hMK km_100, List.forall_mem_cons.mpr ⟨a_km_ok a_hMK km_101, List.forall_mem_cons.mpr ⟨a_km_ok a_hMK km_102, List.forall_mem_cons.mpr ⟨ko_103, List.forall_mem_cons.mpr ⟨a_km_ok a_hMK km_104, List.forall_mem_cons.mpr ⟨a_km_ok a_hMK km_105, List.forall_mem_cons.mpr ⟨a_km_ok a_hMK km_106, List.forall_mem_cons.mpr ⟨a_km_ok a_hMK km_107, List.forall_mem_cons.mpr ⟨a_km_ok a_hMK km_108, List.forall_mem_cons.mpr ⟨a_km_ok a_hMK km_109, List.forall_mem_cons.mpr ⟨a_km_ok a_hMK km_110, List.forall_mem_cons.mpr ⟨a_km_ok a_hMK km_111, List.forall_mem_cons.mpr ⟨a_km_ok a_hMK km_112, List.forall_mem_cons.mpr ⟨a_km_ok a_hMK km_113, List.forall_mem_cons.mpr ⟨a_km_ok a_hMK km_114, List.forall_mem_cons.mpr ⟨a_km_ok a_hMK km_115, List.forall_mem_cons.mpr ⟨a_km_ok a_hMK km_116, List.forall_mem_cons.mpr ⟨a_km_ok a_hMK km_117, List.forall_mem_cons.mpr ⟨ko_118, List.forall_mem_cons.mpr ⟨a_km_ok a_hMK km_119, fun z hz => nomatch hz⟩⟩⟩⟩⟩⟩⟩⟩⟩⟩⟩⟩⟩⟩⟩⟩⟩⟩⟩⟩
theorem a_oMK6 : ∀ z ∈ a_MK6, a_okm (a_mt a_MK) z.2 := by
  unfold a_MK6
  refine List.forall_mem_cons.mpr ⟨a_km_ok a_hMK km_120, List.forall_mem_cons.mpr ⟨a_km_ok a_hMK km_121, List.forall_mem_cons.mpr ⟨a_km_ok a_hMK km_122, List.forall_mem_cons.mpr ⟨a_km_ok a_hMK km_123, List.forall_mem_cons.mpr ⟨a_km_ok a_hMK km_124, List.forall_mem_cons.mpr ⟨a_km_ok a_hMK km_125, List.forall_mem_cons.mpr ⟨a_km_ok a_hMK km_126, List.forall_mem_cons.mpr ⟨a_km_ok a_hMK km_127, List.forall_mem_cons.mpr ⟨a_km_ok a_hMK km_128, List.forall_mem_cons.mpr ⟨a_km_ok a_hMK km_129, List.forall_mem_cons.mpr ⟨a_km_ok a_hMK km_130, List.forall_mem_cons.mpr ⟨a_km_ok a_hMK km_131, List.forall_mem_cons.mpr ⟨a_km_ok a_hMK km_132, List.forall_mem_cons.mpr ⟨a_km_ok a_hMK km_133, List.forall_mem_cons.mpr ⟨a_km_ok a_hMK km_134, List.forall_mem_cons.mpr ⟨a_km_ok a_hMK km_135, List.forall_mem_cons.mpr ⟨ko_136, List.forall_mem_cons.mpr ⟨a_km_ok a_hMK km_200, List.forall_mem_cons.mpr ⟨a_km_ok a_hMK km_201, List.forall_mem_cons.mpr ⟨a_km_ok a_hMK km_202, fun z hz => nomatch hz⟩⟩⟩⟩⟩⟩⟩⟩⟩⟩⟩⟩⟩⟩⟩⟩⟩⟩⟩⟩
theorem a_oMK7 : ∀ z ∈ a_MK7, a_okm (a_mt a_MK) z.2 := by
  unfold a_MK7
  refine List.forall_mem_cons.mpr ⟨a_km_ok a_hMK km_203, List.forall_mem_cons.mpr ⟨a_km_ok a_hMK km_204, List.forall_mem_cons.mpr ⟨a_km_ok a_hMK km_205, List.forall_mem_cons.mpr ⟨a_km_ok a_hMK km_206, List.forall_mem_cons.mpr ⟨a_km_ok a_hMK km_207, List.forall_mem_cons.mpr ⟨a_km_ok a_hMK km_208, List.forall_mem_cons.mpr ⟨a_km_ok a_hMK km_209, List.forall_mem_cons.mpr ⟨a_km_ok a_hMK km_210, List.forall_mem_cons.mpr ⟨a_km_ok a_hMK km_211, List.forall_mem_cons.mpr ⟨a_km_ok a_hMK km_212, List.forall_mem_cons.mpr ⟨a_km_ok a_hMK km_213, List.forall_mem_cons.mpr ⟨a_km_ok a_hMK km_214, List.forall_mem_cons.mpr ⟨a_km_ok a_hMK km_215, List.forall_mem_cons.mpr ⟨a_km_ok a_hMK km_216, List.forall_mem_cons.mpr ⟨a_km_ok a_hMK km_217, List.forall_mem_cons.mpr ⟨a_km_ok a_hMK km_218, fun z hz => nomatch hz⟩⟩⟩⟩⟩⟩⟩⟩⟩⟩⟩⟩⟩⟩⟩⟩
theorem a_oMK : ∀ z ∈ a_MK, a_okm (a_mt a_MK) z.2 := by
  rw [a_MK_eq]
  intro z hz
  rcases List.mem_append.mp hz with hz | hz
  · exact a_MK_eq ▸ a_oMK0 z hz
  rcases List.mem_append.mp hz with hz | hz
  · exact a_MK_eq ▸ a_oMK1 z hz
  rcases List.mem_append.mp hz with hz | hz
  · exact a_MK_eq ▸ a_oMK2 z hz
  rcases List.mem_append.mp hz with hz | hz
  · exact a_MK_eq ▸ a_oMK3 z hz
  rcases List.mem_append.mp hz with hz | hz
  · exact a_MK_eq ▸ a_oMK4 z hz
  rcases List.mem_append.mp hz with hz | hz
  · exact a_MK_eq ▸ a_oMK5 z hz
  rcases List.mem_append.mp hz with hz | hz
  · exact a_MK_eq ▸ a_oMK6 z hz
  exact a_MK_eq ▸ a_oMK7 z hz
theorem a_MT_ok : ∀ i y, a_MT i = some y → a_okm a_MT y := a_mt_mem a_oMK
theorem a_law_ok : a_okm a_MT md_137 := ko_137
theorem a_law_q : a_lawq md_137 := ⟨rfl, rfl, rfl, rfl, rfl, rfl, by decide, by decide⟩
