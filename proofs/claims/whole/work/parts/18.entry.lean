/-! The law's entry: what stands around the world there. -/
theorem a_inT {ws : List Cond} (ps : List Nat) (hp : ws = ps.filterMap (fun i => lw_tbl[i]?)) : ∀ w ∈ ws, w ∈ lw_tbl := by
  intro w hw
  rw [hp] at hw
  obtain ⟨i, -, hi⟩ := List.mem_filterMap.mp hw
  exact List.mem_of_getElem? hi
def a_srL : List Cond := a_strs.map (fun q => Cond.stringRef q.1 q.2.1 q.2.2.1) ++ a_thr.map (fun q => Cond.stringRef RX8 q.1 q.2)
theorem a_sr_in : ∀ w ∈ a_srL, w ∈ lw_tbl := a_inT [467, 1496, 555, 1648, 605, 1674, 610, 1679, 714, 1708, 716, 1709, 717, 1710, 718, 1711, 719, 1712, 2172, 1376, 1417, 1448, 1485, 1097, 1319, 1400] (by decide +kernel)
theorem a_inst_in : ∀ w ∈ (List.range 10).map (fun ci => Cond.instantiable (a_cn ci) (a_nf ci)), w ∈ lw_tbl := a_inT [241, 371, 254, 261, 363, 225, 187, 151, 143, 1487] (by decide +kernel)
def a_eL : List Cond := [.laysStatic "java/lang/String" "COMPACT_STRINGS" "Z", .laysStatic "jdk/internal/util/Preconditions" "SIOOBE_FORMATTER" "Ljava/util/function/BiFunction;", .laysStatic Bundle.tN "UNASSIGNED_STACK" Bundle.steD, .laysStatic Bundle.tN "SUPPRESSED_SENTINEL" Bundle.listD, .initialized "java/lang/String", .initialized "jdk/internal/util/Preconditions", .initialized Bundle.tN, .arrayOver (.object RX3), .arrayOver (.array .int)]
theorem a_e_in : ∀ w ∈ a_eL, w ∈ lw_tbl := a_inT [477, 493, 1082, 1084, 128, 130, 135, 260, 231] (by decide +kernel)
def a_sv (tm : Term) : Term := .field tm "java/lang/String" "value" "[B"
def a_req (tm : Term) (len : Nat) (byt : List Int32) : List Cond := .exactly tm "java/lang/String" :: .eq (.field tm "java/lang/String" "coder" "B") (.int 0) :: .arrayOf (a_sv tm) .byte :: .eq (.length (a_sv tm)) (.int (Int32.ofNat len)) :: (List.range len).map (fun j => .eq (.elem (a_sv tm) (.int (Int32.ofNat j))) (.int (byt.getD j 0)))
def a_rep (i : Nat) : String × Nat := match i with
  | 0 => ("WeatherInsurance", 84)
  | 1 => ("WeatherInsuranceModel", 49)
  | 2 => ("WeatherInsurance$Setup", 74)
  | 3 => ("WeatherInsurance$Setup", 83)
  | 4 => ("WeatherInsurance$Setup", 88)
  | 5 => ("WeatherInsurance$Script", 48)
  | 6 => ("WeatherInsurance$Script", 54)
  | 7 => ("WeatherInsurance$Script", 56)
  | 8 => ("WeatherInsurance$Script", 58)
  | 9 => ("WeatherInsurance$Script", 60)
  | _ => ("WeatherInsuranceModel", 427)
def a_fl : List Cond := flatC (Jvm.Cond.and given_1 narrow_1)
theorem a_req_0 : ∀ w ∈ a_req (.string (a_rep 0).1 (a_rep 0).2) (a_sl.getD 0 0) (a_sb.getD 0 []), w ∈ a_fl := by decide +kernel
theorem a_req_1 : ∀ w ∈ a_req (.string (a_rep 1).1 (a_rep 1).2) (a_sl.getD 1 0) (a_sb.getD 1 []), w ∈ a_fl := by decide +kernel
theorem a_req_2 : ∀ w ∈ a_req (.string (a_rep 2).1 (a_rep 2).2) (a_sl.getD 2 0) (a_sb.getD 2 []), w ∈ a_fl := by decide +kernel
theorem a_req_3 : ∀ w ∈ a_req (.string (a_rep 3).1 (a_rep 3).2) (a_sl.getD 3 0) (a_sb.getD 3 []), w ∈ a_fl := by decide +kernel
theorem a_req_4 : ∀ w ∈ a_req (.string (a_rep 4).1 (a_rep 4).2) (a_sl.getD 4 0) (a_sb.getD 4 []), w ∈ a_fl := by decide +kernel
theorem a_req_5 : ∀ w ∈ a_req (.string (a_rep 5).1 (a_rep 5).2) (a_sl.getD 5 0) (a_sb.getD 5 []), w ∈ a_fl := by decide +kernel
theorem a_req_6 : ∀ w ∈ a_req (.string (a_rep 6).1 (a_rep 6).2) (a_sl.getD 6 0) (a_sb.getD 6 []), w ∈ a_fl := by decide +kernel
theorem a_req_7 : ∀ w ∈ a_req (.string (a_rep 7).1 (a_rep 7).2) (a_sl.getD 7 0) (a_sb.getD 7 []), w ∈ a_fl := by decide +kernel
theorem a_req_8 : ∀ w ∈ a_req (.string (a_rep 8).1 (a_rep 8).2) (a_sl.getD 8 0) (a_sb.getD 8 []), w ∈ a_fl := by decide +kernel
theorem a_req_9 : ∀ w ∈ a_req (.string (a_rep 9).1 (a_rep 9).2) (a_sl.getD 9 0) (a_sb.getD 9 []), w ∈ a_fl := by decide +kernel
theorem a_req_10 : ∀ w ∈ a_req (.string (a_rep 10).1 (a_rep 10).2) (a_sl.getD 10 0) (a_sb.getD 10 []), w ∈ a_fl := by decide +kernel
theorem a_req_ok : ∀ i, i < 11 → ∀ w ∈ a_req (.string (a_rep i).1 (a_rep i).2) (a_sl.getD i 0) (a_sb.getD i []), w ∈ a_fl := fun i hi => match i, hi with
  | 0, _ => a_req_0
  | 1, _ => a_req_1
  | 2, _ => a_req_2
  | 3, _ => a_req_3
  | 4, _ => a_req_4
  | 5, _ => a_req_5
  | 6, _ => a_req_6
  | 7, _ => a_req_7
  | 8, _ => a_req_8
  | 9, _ => a_req_9
  | 10, _ => a_req_10
theorem a_eqL_in : ∀ q ∈ a_strs, (q.1, q.2.1) = a_rep q.2.2.2 ∨ Cond.eq (.string (a_rep q.2.2.2).1 (a_rep q.2.2.2).2) (.string q.1 q.2.1) ∈ a_fl := by decide +kernel
theorem a_thr_in : ∀ q ∈ a_thr, Cond.exactly (.string RX8 q.1) "java/lang/String" ∈ a_fl := by decide +kernel
theorem a_nc_in : ∀ i, i < 4 → ∀ j, j < 4 → i ≠ j → Cond.not (.castable (a_xn i) (a_xn j)) ∈ a_fl := by decide +kernel
theorem a_st_in : ∀ w ∈ ([.eq (.static "java/lang/String" "COMPACT_STRINGS" "Z") (.int 1), .isRef (.static "jdk/internal/util/Preconditions" "SIOOBE_FORMATTER" "Ljava/util/function/BiFunction;"), .isRef (.static Bundle.tN "UNASSIGNED_STACK" Bundle.steD), .isRef (.static Bundle.tN "SUPPRESSED_SENTINEL" Bundle.listD)] : List Cond), w ∈ a_fl := by decide +kernel
theorem a_sl_lt : ∀ i, i < 11 → a_sl.getD i 0 < 2 ^ 31 ∧ 0 < a_sl.getD i 0 := by decide +kernel
theorem a_sl_ne : ∀ i, i < 11 → ∀ j, j < 11 → i ≠ j → Int32.ofNat (a_sl.getD i 0) ≠ Int32.ofNat (a_sl.getD j 0) ∨ (a_sb.getD i []).getD 0 0 ≠ (a_sb.getD j []).getD 0 0 := by decide +kernel
