section
-- ===== PART A: goes FIRST, ahead of the names: the tables' words, and 'selects' of the private methods out of them =====
/-- a private method of a class that the tables say can be made, by its rows of tables_1 -/
def lw_okq (q : MethodName × Nat) : Prop := (q.1.cls ≠ "java/lang/invoke/MethodHandle" ∧ q.1.cls ≠ "java/lang/invoke/VarHandle") ∧ Cond.instantiable q.1.cls q.2 ∈ tables_1 ∧ Cond.privateMethod q.1 ∈ tables_1 ∧ Cond.instanceMethod q.1 ∈ tables_1
theorem lw_p0 : lw_okq (⟨"WeatherInsurance", "openInput", "()V"⟩, 16) := ⟨⟨by decide +kernel, by decide +kernel⟩, List.mem_of_getElem? (i := 29) (by decide +kernel), List.mem_of_getElem? (i := 390) (by decide +kernel), List.mem_of_getElem? (i := 391) (by decide +kernel)⟩
theorem lw_p1 : lw_okq (⟨"WeatherInsurance$TextReader", "endOfRun", "(II)I"⟩, 8) := ⟨⟨by decide +kernel, by decide +kernel⟩, List.mem_of_getElem? (i := 37) (by decide +kernel), List.mem_of_getElem? (i := 409) (by decide +kernel), List.mem_of_getElem? (i := 410) (by decide +kernel)⟩
theorem lw_p2 : lw_okq (⟨"WeatherInsurance$Setup", "readStatement", "(LWeatherInsurance$TextReader;)Z"⟩, 7) := ⟨⟨by decide +kernel, by decide +kernel⟩, List.mem_of_getElem? (i := 70) (by decide +kernel), List.mem_of_getElem? (i := 421) (by decide +kernel), List.mem_of_getElem? (i := 422) (by decide +kernel)⟩
theorem lw_p3 : lw_okq (⟨"WeatherInsurance$Setup", "readHolder", "(LWeatherInsurance$TextReader;)Z"⟩, 7) := ⟨⟨by decide +kernel, by decide +kernel⟩, List.mem_of_getElem? (i := 70) (by decide +kernel), List.mem_of_getElem? (i := 432) (by decide +kernel), List.mem_of_getElem? (i := 433) (by decide +kernel)⟩
theorem lw_p4 : lw_okq (⟨"WeatherInsurance$Setup", "isNamedIn", "(ILWeatherInsurance$TextReader;)Z"⟩, 7) := ⟨⟨by decide +kernel, by decide +kernel⟩, List.mem_of_getElem? (i := 70) (by decide +kernel), List.mem_of_getElem? (i := 450) (by decide +kernel), List.mem_of_getElem? (i := 451) (by decide +kernel)⟩
theorem lw_p5 : lw_okq (⟨"WeatherInsurance$Setup", "takeName", "(LWeatherInsurance$TextReader;)V"⟩, 7) := ⟨⟨by decide +kernel, by decide +kernel⟩, List.mem_of_getElem? (i := 70) (by decide +kernel), List.mem_of_getElem? (i := 463) (by decide +kernel), List.mem_of_getElem? (i := 464) (by decide +kernel)⟩
theorem lw_p6 : lw_okq (⟨"WeatherInsurance$Setup", "readAssessor", "(LWeatherInsurance$TextReader;)Z"⟩, 7) := ⟨⟨by decide +kernel, by decide +kernel⟩, List.mem_of_getElem? (i := 70) (by decide +kernel), List.mem_of_getElem? (i := 476) (by decide +kernel), List.mem_of_getElem? (i := 477) (by decide +kernel)⟩
theorem lw_p7 : lw_okq (⟨"WeatherInsurance$Setup", "readReserve", "(LWeatherInsurance$TextReader;)Z"⟩, 7) := ⟨⟨by decide +kernel, by decide +kernel⟩, List.mem_of_getElem? (i := 70) (by decide +kernel), List.mem_of_getElem? (i := 481) (by decide +kernel), List.mem_of_getElem? (i := 482) (by decide +kernel)⟩
theorem lw_p8 : lw_okq (⟨"WeatherInsurance", "appendWord", "(I)V"⟩, 16) := ⟨⟨by decide +kernel, by decide +kernel⟩, List.mem_of_getElem? (i := 29) (by decide +kernel), List.mem_of_getElem? (i := 676) (by decide +kernel), List.mem_of_getElem? (i := 677) (by decide +kernel)⟩
theorem lw_p9 : lw_okq (⟨"WeatherInsuranceLaw", "acts", "(LWeatherInsurance;II)Z"⟩, 33) := ⟨⟨by decide +kernel, by decide +kernel⟩, List.mem_of_getElem? (i := 554) (by decide +kernel), List.mem_of_getElem? (i := 684) (by decide +kernel), List.mem_of_getElem? (i := 685) (by decide +kernel)⟩
theorem lw_p10 : lw_okq (⟨"java/lang/Throwable", "fillInStackTrace", "(I)Ljava/lang/Throwable;"⟩, 6) := ⟨⟨by decide +kernel, by decide +kernel⟩, List.mem_of_getElem? (i := 733) (by decide +kernel), List.mem_of_getElem? (i := 731) (by decide +kernel), List.mem_of_getElem? (i := 732) (by decide +kernel)⟩
theorem lw_p11 : lw_okq (⟨"WeatherInsurance$Office", "collectPremiums", "(LWeatherInsurance$Ledger;)V"⟩, 4) := ⟨⟨by decide +kernel, by decide +kernel⟩, List.mem_of_getElem? (i := 240) (by decide +kernel), List.mem_of_getElem? (i := 794) (by decide +kernel), List.mem_of_getElem? (i := 795) (by decide +kernel)⟩
theorem lw_p12 : lw_okq (⟨"WeatherInsurance$Office", "collectPremium", "(LWeatherInsurance$Ledger;I)V"⟩, 4) := ⟨⟨by decide +kernel, by decide +kernel⟩, List.mem_of_getElem? (i := 240) (by decide +kernel), List.mem_of_getElem? (i := 806) (by decide +kernel), List.mem_of_getElem? (i := 807) (by decide +kernel)⟩
theorem lw_p13 : lw_okq (⟨"WeatherInsurance$Office", "firstUndecidedOf", "(I)I"⟩, 4) := ⟨⟨by decide +kernel, by decide +kernel⟩, List.mem_of_getElem? (i := 240) (by decide +kernel), List.mem_of_getElem? (i := 824) (by decide +kernel), List.mem_of_getElem? (i := 825) (by decide +kernel)⟩
theorem lw_p14 : lw_okq (⟨"WeatherInsurance$Office", "isUndecidedAt", "(II)Z"⟩, 4) := ⟨⟨by decide +kernel, by decide +kernel⟩, List.mem_of_getElem? (i := 240) (by decide +kernel), List.mem_of_getElem? (i := 828) (by decide +kernel), List.mem_of_getElem? (i := 829) (by decide +kernel)⟩
theorem lw_p15 : lw_okq (⟨"WeatherInsurance$Office", "assess", "(II)Z"⟩, 4) := ⟨⟨by decide +kernel, by decide +kernel⟩, List.mem_of_getElem? (i := 240) (by decide +kernel), List.mem_of_getElem? (i := 832) (by decide +kernel), List.mem_of_getElem? (i := 833) (by decide +kernel)⟩
def lw_privs_1 : List (MethodName × Nat) := [(⟨"WeatherInsurance", "openInput", "()V"⟩, 16), (⟨"WeatherInsurance$TextReader", "endOfRun", "(II)I"⟩, 8), (⟨"WeatherInsurance$Setup", "readStatement", "(LWeatherInsurance$TextReader;)Z"⟩, 7), (⟨"WeatherInsurance$Setup", "readHolder", "(LWeatherInsurance$TextReader;)Z"⟩, 7), (⟨"WeatherInsurance$Setup", "isNamedIn", "(ILWeatherInsurance$TextReader;)Z"⟩, 7), (⟨"WeatherInsurance$Setup", "takeName", "(LWeatherInsurance$TextReader;)V"⟩, 7), (⟨"WeatherInsurance$Setup", "readAssessor", "(LWeatherInsurance$TextReader;)Z"⟩, 7), (⟨"WeatherInsurance$Setup", "readReserve", "(LWeatherInsurance$TextReader;)Z"⟩, 7), (⟨"WeatherInsurance", "appendWord", "(I)V"⟩, 16), (⟨"WeatherInsuranceLaw", "acts", "(LWeatherInsurance;II)Z"⟩, 33), (⟨"java/lang/Throwable", "fillInStackTrace", "(I)Ljava/lang/Throwable;"⟩, 6), (⟨"WeatherInsurance$Office", "collectPremiums", "(LWeatherInsurance$Ledger;)V"⟩, 4), (⟨"WeatherInsurance$Office", "collectPremium", "(LWeatherInsurance$Ledger;I)V"⟩, 4), (⟨"WeatherInsurance$Office", "firstUndecidedOf", "(I)I"⟩, 4), (⟨"WeatherInsurance$Office", "isUndecidedAt", "(II)Z"⟩, 4), (⟨"WeatherInsurance$Office", "assess", "(II)Z"⟩, 4)]
theorem lw_r1 : ∀ q ∈ lw_privs_1, lw_okq q := List.forall_mem_cons.mpr ⟨lw_p0, List.forall_mem_cons.mpr ⟨lw_p1, List.forall_mem_cons.mpr ⟨lw_p2, List.forall_mem_cons.mpr ⟨lw_p3, List.forall_mem_cons.mpr ⟨lw_p4, List.forall_mem_cons.mpr ⟨lw_p5, List.forall_mem_cons.mpr ⟨lw_p6, List.forall_mem_cons.mpr ⟨lw_p7, List.forall_mem_cons.mpr ⟨lw_p8, List.forall_mem_cons.mpr ⟨lw_p9, List.forall_mem_cons.mpr ⟨lw_p10, List.forall_mem_cons.mpr ⟨lw_p11, List.forall_mem_cons.mpr ⟨lw_p12, List.forall_mem_cons.mpr ⟨lw_p13, List.forall_mem_cons.mpr ⟨lw_p14, List.forall_mem_cons.mpr ⟨lw_p15, fun _ h => absurd h List.not_mem_nil⟩⟩⟩⟩⟩⟩⟩⟩⟩⟩⟩⟩⟩⟩⟩⟩
theorem lw_p16 : lw_okq (⟨"WeatherInsurance$Office", "payGrants", "()V"⟩, 4) := ⟨⟨by decide +kernel, by decide +kernel⟩, List.mem_of_getElem? (i := 240) (by decide +kernel), List.mem_of_getElem? (i := 860) (by decide +kernel), List.mem_of_getElem? (i := 861) (by decide +kernel)⟩
theorem lw_p17 : lw_okq (⟨"WeatherInsurance$Office", "holderOfClaim", "(I)I"⟩, 4) := ⟨⟨by decide +kernel, by decide +kernel⟩, List.mem_of_getElem? (i := 240) (by decide +kernel), List.mem_of_getElem? (i := 864) (by decide +kernel), List.mem_of_getElem? (i := 865) (by decide +kernel)⟩
theorem lw_p18 : lw_okq (⟨"WeatherInsuranceLaw", "passes", "(II)I"⟩, 33) := ⟨⟨by decide +kernel, by decide +kernel⟩, List.mem_of_getElem? (i := 554) (by decide +kernel), List.mem_of_getElem? (i := 872) (by decide +kernel), List.mem_of_getElem? (i := 873) (by decide +kernel)⟩
theorem lw_p19 : lw_okq (⟨"WeatherInsuranceLaw", "isActive", "(I)Z"⟩, 33) := ⟨⟨by decide +kernel, by decide +kernel⟩, List.mem_of_getElem? (i := 554) (by decide +kernel), List.mem_of_getElem? (i := 876) (by decide +kernel), List.mem_of_getElem? (i := 877) (by decide +kernel)⟩
theorem lw_p20 : lw_okq (⟨"WeatherInsuranceLaw", "damage", "(I)I"⟩, 33) := ⟨⟨by decide +kernel, by decide +kernel⟩, List.mem_of_getElem? (i := 554) (by decide +kernel), List.mem_of_getElem? (i := 880) (by decide +kernel), List.mem_of_getElem? (i := 881) (by decide +kernel)⟩
theorem lw_p21 : lw_okq (⟨"WeatherInsurance", "requirePolicy", "(I)V"⟩, 16) := ⟨⟨by decide +kernel, by decide +kernel⟩, List.mem_of_getElem? (i := 29) (by decide +kernel), List.mem_of_getElem? (i := 892) (by decide +kernel), List.mem_of_getElem? (i := 893) (by decide +kernel)⟩
theorem lw_p22 : lw_okq (⟨"WeatherInsurance$Office", "obstacleByClaims", "(I)I"⟩, 4) := ⟨⟨by decide +kernel, by decide +kernel⟩, List.mem_of_getElem? (i := 240) (by decide +kernel), List.mem_of_getElem? (i := 919) (by decide +kernel), List.mem_of_getElem? (i := 920) (by decide +kernel)⟩
theorem lw_p23 : lw_okq (⟨"WeatherInsurance", "requireHolder", "(I)V"⟩, 16) := ⟨⟨by decide +kernel, by decide +kernel⟩, List.mem_of_getElem? (i := 29) (by decide +kernel), List.mem_of_getElem? (i := 948) (by decide +kernel), List.mem_of_getElem? (i := 949) (by decide +kernel)⟩
theorem lw_p24 : lw_okq (⟨"WeatherInsurance", "requireInsurance", "(III)V"⟩, 16) := ⟨⟨by decide +kernel, by decide +kernel⟩, List.mem_of_getElem? (i := 29) (by decide +kernel), List.mem_of_getElem? (i := 952) (by decide +kernel), List.mem_of_getElem? (i := 953) (by decide +kernel)⟩
theorem lw_p25 : lw_okq (⟨"WeatherInsurance", "requireBuyer", "(II)V"⟩, 16) := ⟨⟨by decide +kernel, by decide +kernel⟩, List.mem_of_getElem? (i := 29) (by decide +kernel), List.mem_of_getElem? (i := 957) (by decide +kernel), List.mem_of_getElem? (i := 958) (by decide +kernel)⟩
theorem lw_p26 : lw_okq (⟨"WeatherInsurance$Office", "sell", "(IIIII)I"⟩, 4) := ⟨⟨by decide +kernel, by decide +kernel⟩, List.mem_of_getElem? (i := 240) (by decide +kernel), List.mem_of_getElem? (i := 974) (by decide +kernel), List.mem_of_getElem? (i := 975) (by decide +kernel)⟩
theorem lw_p27 : lw_okq (⟨"WeatherInsuranceLaw", "obstacle", "(I)I"⟩, 33) := ⟨⟨by decide +kernel, by decide +kernel⟩, List.mem_of_getElem? (i := 554) (by decide +kernel), List.mem_of_getElem? (i := 995) (by decide +kernel), List.mem_of_getElem? (i := 996) (by decide +kernel)⟩
theorem lw_p28 : lw_okq (⟨"WeatherInsuranceLaw", "files", "(I)I"⟩, 33) := ⟨⟨by decide +kernel, by decide +kernel⟩, List.mem_of_getElem? (i := 554) (by decide +kernel), List.mem_of_getElem? (i := 999) (by decide +kernel), List.mem_of_getElem? (i := 1000) (by decide +kernel)⟩
theorem lw_p29 : lw_okq (⟨"WeatherInsuranceLaw", "isLike", "(LWeatherInsurance;)Z"⟩, 33) := ⟨⟨by decide +kernel, by decide +kernel⟩, List.mem_of_getElem? (i := 554) (by decide +kernel), List.mem_of_getElem? (i := 1011) (by decide +kernel), List.mem_of_getElem? (i := 1012) (by decide +kernel)⟩
theorem lw_p30 : lw_okq (⟨"WeatherInsurance", "requireClaim", "(I)V"⟩, 16) := ⟨⟨by decide +kernel, by decide +kernel⟩, List.mem_of_getElem? (i := 29) (by decide +kernel), List.mem_of_getElem? (i := 1070) (by decide +kernel), List.mem_of_getElem? (i := 1071) (by decide +kernel)⟩
theorem lw_p31 : lw_okq (⟨"WeatherInsurance", "requireAssessor", "(I)V"⟩, 16) := ⟨⟨by decide +kernel, by decide +kernel⟩, List.mem_of_getElem? (i := 29) (by decide +kernel), List.mem_of_getElem? (i := 1098) (by decide +kernel), List.mem_of_getElem? (i := 1099) (by decide +kernel)⟩
def lw_privs_2 : List (MethodName × Nat) := [(⟨"WeatherInsurance$Office", "payGrants", "()V"⟩, 4), (⟨"WeatherInsurance$Office", "holderOfClaim", "(I)I"⟩, 4), (⟨"WeatherInsuranceLaw", "passes", "(II)I"⟩, 33), (⟨"WeatherInsuranceLaw", "isActive", "(I)Z"⟩, 33), (⟨"WeatherInsuranceLaw", "damage", "(I)I"⟩, 33), (⟨"WeatherInsurance", "requirePolicy", "(I)V"⟩, 16), (⟨"WeatherInsurance$Office", "obstacleByClaims", "(I)I"⟩, 4), (⟨"WeatherInsurance", "requireHolder", "(I)V"⟩, 16), (⟨"WeatherInsurance", "requireInsurance", "(III)V"⟩, 16), (⟨"WeatherInsurance", "requireBuyer", "(II)V"⟩, 16), (⟨"WeatherInsurance$Office", "sell", "(IIIII)I"⟩, 4), (⟨"WeatherInsuranceLaw", "obstacle", "(I)I"⟩, 33), (⟨"WeatherInsuranceLaw", "files", "(I)I"⟩, 33), (⟨"WeatherInsuranceLaw", "isLike", "(LWeatherInsurance;)Z"⟩, 33), (⟨"WeatherInsurance", "requireClaim", "(I)V"⟩, 16), (⟨"WeatherInsurance", "requireAssessor", "(I)V"⟩, 16)]
theorem lw_r2 : ∀ q ∈ lw_privs_2, lw_okq q := List.forall_mem_cons.mpr ⟨lw_p16, List.forall_mem_cons.mpr ⟨lw_p17, List.forall_mem_cons.mpr ⟨lw_p18, List.forall_mem_cons.mpr ⟨lw_p19, List.forall_mem_cons.mpr ⟨lw_p20, List.forall_mem_cons.mpr ⟨lw_p21, List.forall_mem_cons.mpr ⟨lw_p22, List.forall_mem_cons.mpr ⟨lw_p23, List.forall_mem_cons.mpr ⟨lw_p24, List.forall_mem_cons.mpr ⟨lw_p25, List.forall_mem_cons.mpr ⟨lw_p26, List.forall_mem_cons.mpr ⟨lw_p27, List.forall_mem_cons.mpr ⟨lw_p28, List.forall_mem_cons.mpr ⟨lw_p29, List.forall_mem_cons.mpr ⟨lw_p30, List.forall_mem_cons.mpr ⟨lw_p31, fun _ h => absurd h List.not_mem_nil⟩⟩⟩⟩⟩⟩⟩⟩⟩⟩⟩⟩⟩⟩⟩⟩
theorem lw_p32 : lw_okq (⟨"WeatherInsurance$Audit", "damagesAgree", "(LWeatherInsurance$Book;LWeatherInsurance$Ledger;)Z"⟩, 2) := ⟨⟨by decide +kernel, by decide +kernel⟩, List.mem_of_getElem? (i := 120) (by decide +kernel), List.mem_of_getElem? (i := 1145) (by decide +kernel), List.mem_of_getElem? (i := 1146) (by decide +kernel)⟩
theorem lw_p33 : lw_okq (⟨"WeatherInsurance$Audit", "damageBySorting", "(LWeatherInsurance$Book;II)I"⟩, 2) := ⟨⟨by decide +kernel, by decide +kernel⟩, List.mem_of_getElem? (i := 120) (by decide +kernel), List.mem_of_getElem? (i := 1149) (by decide +kernel), List.mem_of_getElem? (i := 1150) (by decide +kernel)⟩
theorem lw_p34 : lw_okq (⟨"WeatherInsurance$Audit", "insert", "(I)V"⟩, 2) := ⟨⟨by decide +kernel, by decide +kernel⟩, List.mem_of_getElem? (i := 120) (by decide +kernel), List.mem_of_getElem? (i := 1155) (by decide +kernel), List.mem_of_getElem? (i := 1156) (by decide +kernel)⟩
theorem lw_p35 : lw_okq (⟨"WeatherInsurance$Audit", "sumOfSorted", "()I"⟩, 2) := ⟨⟨by decide +kernel, by decide +kernel⟩, List.mem_of_getElem? (i := 120) (by decide +kernel), List.mem_of_getElem? (i := 1159) (by decide +kernel), List.mem_of_getElem? (i := 1160) (by decide +kernel)⟩
theorem lw_p36 : lw_okq (⟨"WeatherInsurance$Audit", "countBelow", "(I)I"⟩, 2) := ⟨⟨by decide +kernel, by decide +kernel⟩, List.mem_of_getElem? (i := 120) (by decide +kernel), List.mem_of_getElem? (i := 1164) (by decide +kernel), List.mem_of_getElem? (i := 1165) (by decide +kernel)⟩
def lw_privs_3 : List (MethodName × Nat) := [(⟨"WeatherInsurance$Audit", "damagesAgree", "(LWeatherInsurance$Book;LWeatherInsurance$Ledger;)Z"⟩, 2), (⟨"WeatherInsurance$Audit", "damageBySorting", "(LWeatherInsurance$Book;II)I"⟩, 2), (⟨"WeatherInsurance$Audit", "insert", "(I)V"⟩, 2), (⟨"WeatherInsurance$Audit", "sumOfSorted", "()I"⟩, 2), (⟨"WeatherInsurance$Audit", "countBelow", "(I)I"⟩, 2)]
theorem lw_r3 : ∀ q ∈ lw_privs_3, lw_okq q := List.forall_mem_cons.mpr ⟨lw_p32, List.forall_mem_cons.mpr ⟨lw_p33, List.forall_mem_cons.mpr ⟨lw_p34, List.forall_mem_cons.mpr ⟨lw_p35, List.forall_mem_cons.mpr ⟨lw_p36, fun _ h => absurd h List.not_mem_nil⟩⟩⟩⟩⟩
def lw_privs : List (MethodName × Nat) := lw_privs_1 ++ (lw_privs_2 ++ (lw_privs_3))
def lw_tbl : List Cond := k2_sels lw_privs ++ tables_1
theorem lw_privs_ok : ∀ q ∈ lw_privs, lw_okq q := by
  show ∀ q ∈ lw_privs_1 ++ (lw_privs_2 ++ (lw_privs_3)), lw_okq q
  exact List.forall_mem_append.mpr ⟨lw_r1, List.forall_mem_append.mpr ⟨lw_r2, lw_r3⟩⟩
-- ===== end of PART A; then your names; then what follows =====
def va_AOA (t : FieldType) (U : State) : Prop := (Cond.arrayOver (.array t)).before #[] U = true
theorem va_AOA.use {t : FieldType} {A : Array Value} {U : State} (h : va_AOA t U) : (Cond.arrayOver (.array t)).before A U = true := h
/-! ===== BEGIN words of one list among another's, by their places ===== -/
theorem goodIn_r {big : List Cond} (ws : List Cond) (ps : List Nat) (hp : ws = ps.filterMap (fun i => big[i]?)) (h : ws.all goodWord = true) : GoodIn big ws := by
  intro w hw
  have h1 := List.all_eq_true.mp h w hw
  rw [hp] at hw
  obtain ⟨i, -, hi⟩ := List.mem_filterMap.mp hw
  have hm : w ∈ big := by first | exact List.mem_of_getElem? hi | exact List.getElem?_mem hi
  exact ⟨hm, good_of_word h1⟩
theorem goodIn_app {big a b : List Cond} (ha : GoodIn big a) (hb : GoodIn big b) : GoodIn big (a ++ b) := fun w h => (List.mem_append.mp h).elim (ha w) (hb w)
theorem goodIn_ca {big a b : List Cond} {c : Cond} (ha : GoodIn big (c :: a)) (hb : GoodIn big b) : GoodIn big (c :: (a ++ b)) := fun w h => (List.mem_cons.mp h).elim (fun e => ha w (List.mem_cons.mpr (Or.inl e))) (fun h => (List.mem_append.mp h).elim (fun h => ha w (List.mem_cons.mpr (Or.inr h))) (hb w))
theorem goodIn_sub {big ws : List Cond} (hm : ∀ w ∈ ws, w ∈ big) (h : ws.all goodWord = true) : GoodIn big ws := fun w hw => ⟨hm w hw, good_of_word (List.all_eq_true.mp h w hw)⟩
/-! ===== END ===== -/

/-! ===== BEGIN new T[n][m]: the outer array a place, the inner ones among the pooled ===== -/
/-- f, but v at every address of l -/
def vr_up {α : Type} (f : Nat → α) (l : List Nat) (v : α) : Nat → α := fun a => if a ∈ l then v else f a
theorem vr_up_in {α : Type} {f : Nat → α} {l : List Nat} {v : α} {a : Nat} (h : a ∈ l) : vr_up f l v a = v := if_pos h
theorem vr_up_ne {α : Type} {f : Nat → α} {l : List Nat} {v : α} {a : Nat} (h : a ∉ l) : vr_up f l v a = f a := if_neg h
theorem vr_rows {L l : List Nat} {f : Nat → va_E} {e : va_E} (h : ∀ a, a ∈ l → a ∉ L) : va_pl L f ++ l.map (fun a => (a, e)) = va_pl (L ++ l) (vr_up f l e) := by
  unfold va_pl
  rw [List.map_append]
  congr 1
  · apply List.map_congr_left
    intro a ha
    rw [vr_up_ne (fun q => h a q ha)]
  · apply List.map_congr_left
    intro a ha
    rw [vr_up_in ha]
theorem vr_lay {X rows : va_W} {x : Nat × va_E} {pl : va_W} {D : va_G} {cl : List vw_C} {H : Heap} (hP : va_P D cl (((X ++ pl) ++ [x]) ++ rows) H) : va_P D cl ((X ++ [x]) ++ (pl ++ rows)) H := by
  rw [List.append_assoc (X ++ pl)] at hP
  have h := va_P.swap hP
  rw [← List.append_assoc X] at h
  have h2 := va_P.swap h
  rw [List.append_assoc (X ++ [x])] at h2
  exact h2
theorem vr_layD {X rows : va_W} {x : Nat × va_E} {pl : va_W} {A : Nat → Prop} (hD : va_D A (((X ++ pl) ++ [x]) ++ rows)) : va_D A ((X ++ [x]) ++ (pl ++ rows)) := by
  rw [List.append_assoc (X ++ pl)] at hD
  have h := va_D.swap hD
  rw [← List.append_assoc X] at h
  have h2 := va_D.swap h
  rw [List.append_assoc (X ++ [x])] at h2
  exact h2
theorem vr_outer (c : ClassId) (N h0 : Nat) : ∀ i : Nat, Jvm.Free.Multi.outerC c N h0 i = arrV c N (fun j => va_rf (if j < i then some (h0 + 1 + j) else none))
  | 0 => by
    show ({ cls := c, slots := Array.replicate N .null, vm := .none } : Cell) = _
    rw [arrV_new]
    refine congrArg (arrV c N) (funext fun j => ?_)
    simp [va_rf]
  | i + 1 => by
    show (Jvm.Free.Multi.outerC c N h0 i).setSlot i (.ref (h0 + 1 + i)) = _
    rw [vr_outer c N h0 i, arrV_store]
    refine congrArg (arrV c N) (funext fun j => ?_)
    by_cases e : j = i
    · subst e
      simp [updV, va_rf]
    · by_cases h : j < i
      · simp [updV, e, h, Nat.lt_succ_of_lt h]
      · simp [updV, e, h, show ¬ j < i + 1 by omega]
section VGM
variable {p : Program} {l : Launch} {e : Env} {R : Room} {s : State} {m : MethodId} {args : Array Value} {below : List Frame} {meth : Method} {c : Code} {H : Heap} {locs : List Loc} {cells slots : Nat} {Q : State → Prop}
variable {cc : ByteArray} {pc : Nat} {ls : Array Slot} {rest : List Value} {D : va_G} {cl : List vw_C} {A : Nat → Prop} {a : Nat} {tys : List (ClassId × FieldType)} {ws : va_W} {H0 : Heap}
theorem va_mna {X : va_W} {L : List Nat} {f : Nat → va_E} {cc : ByteArray} (hexec : p.tables.exec = Jvm.exec) (hb : c.code = cc) {own : String} {index : Nat} {ty : FieldType} {cy : ClassId} (hown : s.vm.findClass own = some m.cls) (hclink : (Cond.classLink own index ("[" ++ (FieldType.array ty).toString)).before args s = true) (hover : va_AOA ty s) (harr : (Cond.arrayClass ty).before args s = true) (hcy : s.vm.findClass (FieldType.array ty).toString = some cy)
    (hK : va_K D cl tys s) (hP : va_P D cl (X ++ va_pl L f) H) (hD : va_D A (X ++ va_pl L f)) (hS : va_S A H0 H locs) (hA : ∀ q, H0.size ≤ q → A q) {n k : Int32} {N' K' : Nat} {z : vp_A} (hn : ¬ n < 0) (hk : ¬ k < 0) (hN : n.toNatClampNeg = N') (hM : k.toNatClampNeg = K')
    (hb1 : N' * 4 ≤ 536870912) (hb2 : K' * componentBytes ty ≤ 536870912) (hb3 : K' ≤ 536870912) (hdf : fits ty (defaultValue ty) = true) (hdd : (defaultValue ty).isDefault = true) (hcells : cells + (1 + N') ≤ R.cells) (hslots : slots + (N' + N' * K') ≤ R.slots) (hz : ∀ c : ClassId, Jvm.Free.Multi.innerC c K' (defaultValue ty) = vp_cell c z) (hdg : decode cc pc = .ok (.multianewarray index 2, 4))
    (kk : ∀ (q : Nat) (r : Nat → Nat) (cA : ClassId) (H1 : Heap), (∀ i j : Nat, i < N' → j < N' → r i = r j → i = j) → (∀ i : Nat, i < N' → r i ∉ L) → va_K D cl (tys ++ [(cA, .array ty)]) s →
      va_P D cl ((X ++ [(q, .inl (cA, N', .inr (.inr (.inr (.inr (fun i => if i < N' then some (r i) else none))))))]) ++ va_pl (L ++ (List.range N').map r) (vr_up f ((List.range N').map r) (.inl (cy, z)))) H1 → va_D A ((X ++ [(q, .inl (cA, N', .inr (.inr (.inr (.inr (fun i => if i < N' then some (r i) else none))))))]) ++ va_pl (L ++ (List.range N').map r) (vr_up f ((List.range N').map r) (.inl (cy, z)))) → va_S A H0 H1 locs →
      W p l e R s m args below meth c H1 locs (cells + 1 + N') (slots + N' + N' * K') Q (F0 m (pc + 4) ls (.ref q :: rest))) : W p l e R s m args below meth c H locs cells slots Q (F0 m pc ls (.int k :: .int n :: rest)) := by
  subst hN
  subst hM
  intro T hT Xs
  obtain ⟨vm₁, cA, comp, -, fA, fC, hO, -, X', step⟩ := Xs.multianewarray2F hexec hown hclink (va_AOA.use hover) harr (g := F0 m pc ls (.int k :: .int n :: rest)) rfl (by rw [hb]; exact hdg) rfl hn hk hb1 hb2 hb3 hdf hdd hcells hslots
  have ec : some cy = some comp := hcy.symm.trans fC
  cases ec
  generalize hF : Jvm.Free.Multi.fill (T.setVm vm₁) cA cy n.toNatClampNeg k.toNatClampNeg (defaultValue ty) n.toNatClampNeg = F at X' step
  have hTh : (T.setVm vm₁).heap = H := hT
  obtain ⟨f1, f2, -, -⟩ := Jvm.Free.Multi.fill_facts (T.setVm vm₁) cA cy n.toNatClampNeg k.toNatClampNeg (defaultValue ty) n.toNatClampNeg
  rw [hF, hTh] at f1 f2
  have hold : ∀ x : Nat, x < H.size → F.heap[x]? = H[x]? := fun x hx => by
    have := Jvm.Free.Multi.fill_old (T.setVm vm₁) cA cy n.toNatClampNeg k.toNatClampNeg (defaultValue ty) (a := x) (by rw [hTh]; exact hx) n.toNatClampNeg
    rw [hF, hTh] at this
    exact this
  have hrow : ∀ j : Nat, j < n.toNatClampNeg → F.heap[H.size + 1 + j]? = some (vp_cell cy z) := fun j hj => by
    have := Jvm.Free.Multi.fill_inner (T.setVm vm₁) cA cy n.toNatClampNeg k.toNatClampNeg (defaultValue ty) n.toNatClampNeg j hj
    rw [hF, hTh, hz] at this
    exact this
  have hout : Jvm.Free.Multi.outerC cA n.toNatClampNeg H.size n.toNatClampNeg = vp_cell cA (n.toNatClampNeg, .inr (.inr (.inr (.inr (fun i => if i < n.toNatClampNeg then some (H.size + 1 + i) else none))))) := by
    rw [vp_cell_q]
    exact vr_outer cA n.toNatClampNeg H.size n.toNatClampNeg
  rw [hout] at f2
  have hlt : ∀ a, a ∈ L → a < H.size := fun a ha => by
    obtain ⟨k9, hk9⟩ := va_pl_get (X := X) (f := f) ha
    exact (hP k9 _ hk9).lt
  have hnl : ∀ i : Nat, i < n.toNatClampNeg → H.size + 1 + i ∉ L := fun i _ h => by
    have := hlt _ h
    omega
  have hnm : ∀ a, a ∈ (List.range n.toNatClampNeg).map (fun i => H.size + 1 + i) → a ∉ L := fun a ha h => by
    obtain ⟨i, -, rfl⟩ := List.mem_map.mp ha
    have := hlt _ h
    omega
  have hP0 : va_P D cl (X ++ va_pl L f) F.heap := hP.kept (fun k9 x hx => hold x.1 ((hP k9 x hx).lt))
  have hP1 : va_P D cl ((X ++ va_pl L f) ++ [(H.size, .inl (cA, n.toNatClampNeg, .inr (.inr (.inr (.inr (fun i => if i < n.toNatClampNeg then some (H.size + 1 + i) else none))))))]) F.heap := hP0.app (fun k9 x hx => by
    have h0 : k9 < 1 := (List.getElem?_eq_some_iff.mp hx).1
    rw [show k9 = 0 by omega] at hx
    cases hx
    exact f2)
  have hP2 : va_P D cl (((X ++ va_pl L f) ++ [(H.size, .inl (cA, n.toNatClampNeg, .inr (.inr (.inr (.inr (fun i => if i < n.toNatClampNeg then some (H.size + 1 + i) else none))))))]) ++ ((List.range n.toNatClampNeg).map (fun i => H.size + 1 + i)).map (fun a => (a, .inl (cy, z)))) F.heap := hP1.app (fun k9 x hx => by
    obtain ⟨a, ha, rfl⟩ := List.mem_map.mp (List.mem_of_getElem? hx)
    obtain ⟨i, hi, rfl⟩ := List.mem_map.mp ha
    exact hrow i (List.mem_range.mp hi))
  have hD2 : va_D A (((X ++ va_pl L f) ++ [(H.size, .inl (cA, n.toNatClampNeg, .inr (.inr (.inr (.inr (fun i => if i < n.toNatClampNeg then some (H.size + 1 + i) else none))))))]) ++ ((List.range n.toNatClampNeg).map (fun i => H.size + 1 + i)).map (fun a => (a, .inl (cy, z)))) := by
    have hD1 := hD.push (e := .inl (cA, n.toNatClampNeg, .inr (.inr (.inr (.inr (fun i => if i < n.toNatClampNeg then some (H.size + 1 + i) else none)))))) hP rfl (hA _ hS.1)
    generalize hW1 : (X ++ va_pl L f) ++ [(H.size, .inl (cA, n.toNatClampNeg, .inr (.inr (.inr (.inr (fun i => if i < n.toNatClampNeg then some (H.size + 1 + i) else none))))))] = W1 at hD1 hP1 ⊢
    have hle : ∀ (k9 : Nat) (x : Nat × va_E), W1[k9]? = some x → x.1 ≤ H.size := fun k9 x hx => by
      rw [← hW1] at hx
      by_cases hl : k9 < (X ++ va_pl L f).length
      · rw [List.getElem?_append_left hl] at hx
        exact Nat.le_of_lt ((hP k9 x hx).lt)
      · rw [List.getElem?_append_right (by omega)] at hx
        have h0 : k9 - (X ++ va_pl L f).length < 1 := (List.getElem?_eq_some_iff.mp hx).1
        rw [show k9 - (X ++ va_pl L f).length = 0 by omega] at hx
        cases hx
        exact Nat.le_refl _
    have hr : ∀ (k9 : Nat) (x : Nat × va_E), (((List.range n.toNatClampNeg).map (fun i => H.size + 1 + i)).map (fun a => ((a, .inl (cy, z)) : Nat × va_E)))[k9]? = some x → x.1 = H.size + 1 + k9 := fun k9 x hx => by
      rw [List.getElem?_map, List.getElem?_map] at hx
      by_cases h9 : k9 < n.toNatClampNeg
      · rw [List.getElem?_range h9] at hx
        cases hx
        rfl
      · have hn0 : (List.range n.toNatClampNeg)[k9]? = none := List.getElem?_eq_none (by rw [List.length_range]; omega)
        rw [hn0] at hx
        cases hx
    refine ⟨fun i j x y hi hj hxy => ?_, fun k9 x hx => ?_⟩
    · by_cases h1 : i < W1.length <;> by_cases h2 : j < W1.length
      · rw [List.getElem?_append_left h1] at hi
        rw [List.getElem?_append_left h2] at hj
        exact hD1.1 i j x y hi hj hxy
      · rw [List.getElem?_append_left h1] at hi
        rw [List.getElem?_append_right (by omega)] at hj
        have := hle _ _ hi
        have := hr _ _ hj
        omega
      · rw [List.getElem?_append_right (by omega)] at hi
        rw [List.getElem?_append_left h2] at hj
        have := hle _ _ hj
        have := hr _ _ hi
        omega
      · rw [List.getElem?_append_right (by omega)] at hi hj
        have := hr _ _ hi
        have := hr _ _ hj
        omega
    · by_cases h1 : k9 < W1.length
      · rw [List.getElem?_append_left h1] at hx
        exact hD1.2 k9 x hx
      · rw [List.getElem?_append_right (by omega)] at hx
        have := hr _ _ hx
        exact hA _ (by have := hS.1; omega)
  have hAr : ArrOfT s cA (.array ty) := fun N9 z9 => by
    obtain ⟨-, k9, hk9, cm9, hkk9⟩ := (hO 0 0 0).1
    exact ⟨(fun q hq => by cases hq), k9, hk9, cm9, hkk9⟩
  have hK2 : va_K D cl (tys ++ [(cA, .array ty)]) s := ⟨hK.1, fun k9 x hx => by
    by_cases hl : k9 < tys.length
    · rw [List.getElem?_append_left hl] at hx
      exact hK.2 k9 x hx
    · rw [List.getElem?_append_right (by omega)] at hx
      have h0 : k9 - tys.length < 1 := (List.getElem?_eq_some_iff.mp hx).1
      rw [show k9 - tys.length = 0 by omega] at hx
      cases hx
      exact ⟨hAr, fA⟩⟩
  obtain ⟨t, a1, b1⟩ := kk H.size (fun i => H.size + 1 + i) cA F.heap (fun i j _ _ h => by have h9 : H.size + 1 + i = H.size + 1 + j := h; omega) hnl hK2 (by rw [← vr_rows hnm]; exact vr_lay hP2) (by rw [← vr_rows hnm]; exact vr_layD hD2) ⟨by rw [f1]; have := hS.1; omega, fun x h1 h2 => (hold x (Nat.lt_of_lt_of_le h1 hS.1)).trans (hS.2.1 x h1 h2), hS.2.2⟩ F rfl X'
  refine ⟨t, step t ?_, b1⟩
  have e : T.heap.size = H.size := by rw [hT]
  rw [e]
  exact a1
end VGM
/-! ===== END ===== -/

/-! ===== BEGIN exceptions that leave a method, and their catching by the caller (launches without stack traces) ===== -/
section VXA
/-! The laws vx_back, vx_callV, vx_callS, vx_callSW, vx_throw0, vx_throwS follow proofs of the library, with one case more: JvmDerived/Free/Laws.lean (Back.of_free), Shelf42/LK1.lean (callV, callS), Shelf/KitTraced.lean (throwNew0V, throwNewS). -/
/-- where a method has thrown q: the class by its name, the cell, what was written, the world -/
def vx_T (XC : String → State → State → Prop) (st : State) (q : Addr) (t : State) (mc ms : Nat) (free : Addr → Prop) : Prop :=
  ∃ (E : String) (ce : Cell) (L : List Loc), XC E st t ∧ t.heap[q]? = some ce ∧ ce.vm = .none ∧ st.vm.findClass E = some ce.cls ∧ st.WarmedH t.vm ∧ st.sameButNew ({ t with vm := st.vm } : State) L mc ms ∧ ∀ z ∈ L, free z.base
def vx_Q (Qc : Array Value → State → Outcome → State → Prop) (XC : String → State → State → Prop) (mc ms : Nat) (free : Addr → Prop) : Array Value → State → Outcome → State → Prop := fun a st o t =>
  (Qc a st o t ∧ ∃ L, FrameEnd st o t L mc ms ∧ ∀ q ∈ L, free q.base) ∨ ∃ q, o = .threw q ∧ vx_T XC st q t mc ms free
/-- a callee that returns or throws -/
def vx_Met (l : Launch) (y : MethodName) (ws : List Cond) (rm : Room) (Pc : Array Value → State → Prop) (Qc : Array Value → State → Outcome → State → Prop) (XC : String → State → State → Prop) (mc ms : Nat) (free : Addr → Prop) : Prop :=
  MetFree l y (headSpec ws rm) Pc (fun _ _ _ _ _ => True) (vx_Q Qc XC mc ms free)
def vx_Post (XC : String → State → State → Prop) (mc ms : Nat) (free : Addr → Prop) : Pt → Array Value → Addr → Pt → Prop := fun A a q B =>
  ∃ (g : JFrame) (mk : MethodId) (t : State) (L : List Loc) (E : String) (ce : Cell), B.U.heap = t.heap ∧ B.U.vm = t.vm ∧ XC E (A.U.calling g mk a) t ∧ t.heap[q]? = some ce ∧ ce.vm = .none ∧ A.U.vm.findClass E = some ce.cls ∧ B.locs = A.locs ++ L ∧ (∀ z ∈ L, free z.base) ∧ B.cells = A.cells + mc ∧ B.slots = A.slots + ms
def vx_Back (l : Launch) (R : Room) (p : Program) (e : Env) (below : List Frame) (s : State) (sargs : Array Value) (y : MethodName) (len W9 : Nat)
    (Pre : Pt → Array Value → Prop) (Post : Pt → Array Value → Option Value → Pt → Prop) (PostX : Pt → Array Value → Addr → Pt → Prop) : Prop :=
  ∀ (m : MethodId) (meth : Method) (c : Code) (A : Pt) (g : JFrame) (ig : Instr) (mk : MethodId) (a : Array Value),
    Stand p l e R s m sargs below meth c A.U A.locs A.cells A.slots → g.method = m → g.locals.size = c.maxLocals → decode c.code g.pc = .ok (ig, len) →
    2 * g.monitorRoom + (g.stack.map fun v => v.category).sum ≤ W9 → A.U.methodNamed? y = some mk → Pre A a →
    (∃ (v : Option Value) (B : Pt), Stand p l e R s m sargs below meth c B.U B.locs B.cells B.slots ∧ Post A a v B ∧
      Steps p.tables e below (doInvoke e (A.U.setTop g) [] mk a).1 (B.U.setTop { g with pc := g.pc + len, stack := v.toList ++ g.stack })) ∨
    (∃ (q : Addr) (B : Pt), Stand p l e R s m sargs below meth c B.U B.locs B.cells B.slots ∧ PostX A a q B ∧
      Steps p.tables e below (doInvoke e (A.U.setTop g) [] mk a).1 ((B.U.setTop g).pushFrame (.throwing q)))
section Payer
variable {l : Launch} {R : Room} {p : Program} {e : Env} {below : List Frame} {s : State} {sargs : Array Value} {y : MethodName} {len W9 : Nat}
theorem vx_back {ws : List Cond} {rm : Room} {Pc : Array Value → State → Prop} {Qc : Array Value → State → Outcome → State → Prop} {XC : String → State → State → Prop} {mc ms : Nat} {free : Addr → Prop} {bytes : ByteArray} {maxL : Nat} {ret : Option FieldType}
    (hM : vx_Met l y ws rm Pc Qc XC mc ms free) (hblind : FrameBlind Pc) (hrc : rm.cells = mc) (hrs : rm.slots = ms)
    (hframes : rm.frames + 1 ≤ R.frames) (hlocals : W9 + (maxL + 11) + rm.locals ≤ R.locals)
    (hws : ∀ w ∈ ws, ∀ a' U, s.WarmedH U.vm → w.before a' U = true) (hcode : Cond.code y bytes maxL ret ∈ ws) (hinit : ∀ a' U, s.WarmedH U.vm → (Cond.initialized y.cls).before a' U = true) :
    vx_Back l R p e below s sargs y len W9 (PreOf R mc ms Pc) (PostOf Qc mc ms free) (vx_Post XC mc ms free) := by
  intro m meth c A g ig mk a X hg hsize hdg hW hn hp
  have h1 : (headSpec ws rm).pre.before a A.U = true := atoms_intro fun w hw => hws w hw _ _ X.warmed
  have h2 : (Cond.code y bytes maxL ret).before a A.U = true := hws _ hcode _ _ X.warmed
  have h3 : (Cond.initialized y.cls).before a A.U = true := hinit _ _ X.warmed
  have h4 : A.cells + (headSpec ws rm).room.cells ≤ R.cells := by rw [show (headSpec ws rm).room.cells = mc from hrc]; exact hp.1
  have h5 : A.slots + (headSpec ws rm).room.slots ≤ R.slots := by rw [show (headSpec ws rm).room.slots = ms from hrs]; exact hp.2.1
  have hPc : Pc a (A.U.calling g mk a) := hblind _ _ _ _ hp.2.2
  obtain ⟨U, Ls, c0, s0⟩ := A
  dsimp only [Pt.U, Pt.locs, Pt.cells, Pt.slots] at h1 h2 h3 h4 h5 X hn hPc ⊢
  obtain ⟨methY, cY, hmY, hcY, -, hlY, -, -, -, -⟩ := Cond.code_spec hn h2
  obtain ⟨kY, hkY, -⟩ := className_of_methodNamed hn
  have hinitY : kY.init = .initialized := Cond.initialized_spec (findClass_of_methodNamed hn) hkY h3
  have h : At U g.method c below := by rw [hg]; exact X.here
  have hlocals9 : W9 + (maxL + 11) + (headSpec ws rm).room.locals ≤ R.locals := hlocals
  have happ : (headSpec ws rm).appliesLoose y e.platform (U.calling g mk a) = true :=
    Spec.appliesLoose_calling (g := g) h hdg hn hkY hinitY
      (X.room_calling (g := g) (R' := (headSpec ws rm).room) hsize hmY hcY hframes (by rw [hlY]; omega) h4 h5) h1
  obtain ⟨mid, hmid⟩ := h.above
  have hfr : (U.setTop g).frames = (.java g :: mid) ++ below := by rw [State.frames_setTop' g h.top, hmid]; rfl
  obtain ⟨o, s₂, hsteps, -, hend, hq⟩ := Steps.callFree hM p X.admits X.cas X.clock (acts := []) hfr happ hPc trivial
  have hq' : vx_Q Qc XC mc ms free a (U.calling g mk a) o s₂ := hq
  rw [State.frames_setTop' g h.top] at hend
  obtain ⟨g₀, hg0⟩ := Option.isSome_iff_exists.mp h.top
  obtain ⟨r, hr⟩ := State.topJava?_eq_some.mp hg0
  have hr' : (({ U with heap := s₂.heap, slotsUsed := s₂.slotsUsed } : State).setVm s₂.vm).frames = .java g₀ :: r := hr
  rcases hq' with ⟨hqc, L, hfe, hL⟩ | ⟨q, rfl, E, ce, L, hx, hce, hcv, hcl, hW₂, hsm, hL⟩
  · obtain ⟨⟨v, rfl⟩, hW₂, e2, q2, q3, q4, q5, q6⟩ := id hfe
    have e3 : s₂ = ({ (U.calling g mk a).setFrames s₂.frames with heap := s₂.heap, slotsUsed := s₂.slotsUsed } : State).setVm s₂.vm := by
      have : s₂ = ({ s₂ with vm := (U.calling g mk a).vm } : State).setVm s₂.vm := rfl
      rw [e2] at this
      exact this
    obtain ⟨c₂, i₂, len₂, hc₂, hd₂, hf₂⟩ := hend
    have hW' : U.WarmedH s₂.vm := hW₂
    have hcc : c₂ = c := by
      have h1 : s₂.code? g.method = U.code? g.method := by
        rw [State.code?_eq, State.code?_eq, hW'.alike.method?]
      exact Option.some.inj (hc₂.symm.trans (h1.trans h.code))
    subst hcc
    have hlen : len₂ = len := by rw [hdg] at hd₂; cases hd₂; rfl
    subst hlen
    have hs₂ : s₂ = (({ U with heap := s₂.heap, slotsUsed := s₂.slotsUsed } : State).setVm s₂.vm).setTop { g with pc := g.pc + len₂, stack := v.toList ++ g.stack } := by
      refine e3.trans ?_
      rw [hf₂, State.calling_eq h.top, State.setFrames_setFrames, State.setTop_of_frames _ hr', hr]
      rfl
    have hsame : U.sameButNew ({ U with heap := s₂.heap, slotsUsed := s₂.slotsUsed } : State) L mc ms := by
      refine ⟨?_, q2, q3, q4, q5, q6⟩
      obtain ⟨t, ht, -⟩ := State.frames_cons hr
      show ({ U with heap := s₂.heap, slotsUsed := s₂.slotsUsed } : State) = { U.setFrames U.frames with heap := s₂.heap, slotsUsed := s₂.slotsUsed }
      rw [State.setFrames_self ht]
    subst hg
    refine Or.inl ⟨v, ⟨(({ U with heap := s₂.heap, slotsUsed := s₂.slotsUsed } : State).setVm s₂.vm), Ls ++ L, c0 + mc, s0 + ms⟩,
      ⟨X.admits, X.cas, X.clock, X.frames, X.room, X.hears, X.method, X.code, (X.here.setHeapUsed s₂.heap s₂.slotsUsed).setVm hW'.alike, X.tail, State.WarmedH.trans X.warmed hW', X.limits, X.bytes, X.same.trans (hsame.setVm s.vm)⟩,
      ⟨g, mk, s₂, L, rfl, rfl, hqc, rfl, hL, rfl, rfl⟩, ?_⟩
    show Steps p.tables e below _ ((({ U with heap := s₂.heap, slotsUsed := s₂.slotsUsed } : State).setVm s₂.vm).setTop { g with pc := g.pc + len₂, stack := v.toList ++ g.stack })
    rw [← hs₂]
    exact hsteps
  · obtain ⟨e2, q2, q3, q4, q5, q6⟩ := id hsm
    have e3 : s₂ = ({ (U.calling g mk a).setFrames s₂.frames with heap := s₂.heap, slotsUsed := s₂.slotsUsed } : State).setVm s₂.vm := by
      have : s₂ = ({ s₂ with vm := (U.calling g mk a).vm } : State).setVm s₂.vm := rfl
      rw [e2] at this
      exact this
    have hf₂ : s₂.frames = .throwing q :: .java g :: U.frames.tail := hend
    have hW' : U.WarmedH s₂.vm := hW₂
    have hs₂ : s₂ = ((({ U with heap := s₂.heap, slotsUsed := s₂.slotsUsed } : State).setVm s₂.vm).setTop g).pushFrame (.throwing q) := by
      refine e3.trans ?_
      rw [hf₂, State.calling_eq h.top, State.setFrames_setFrames, State.pushFrame, State.frames_setTop _ hr', State.setTop_of_frames _ hr', State.setFrames_setFrames, hr]
      rfl
    have hsame : U.sameButNew ({ U with heap := s₂.heap, slotsUsed := s₂.slotsUsed } : State) L mc ms := by
      refine ⟨?_, q2, q3, q4, q5, q6⟩
      obtain ⟨t, ht, -⟩ := State.frames_cons hr
      show ({ U with heap := s₂.heap, slotsUsed := s₂.slotsUsed } : State) = { U.setFrames U.frames with heap := s₂.heap, slotsUsed := s₂.slotsUsed }
      rw [State.setFrames_self ht]
    subst hg
    refine Or.inr ⟨q, ⟨(({ U with heap := s₂.heap, slotsUsed := s₂.slotsUsed } : State).setVm s₂.vm), Ls ++ L, c0 + mc, s0 + ms⟩,
      ⟨X.admits, X.cas, X.clock, X.frames, X.room, X.hears, X.method, X.code, (X.here.setHeapUsed s₂.heap s₂.slotsUsed).setVm hW'.alike, X.tail, State.WarmedH.trans X.warmed hW', X.limits, X.bytes, X.same.trans (hsame.setVm s.vm)⟩,
      ⟨g, mk, s₂, L, E, ce, rfl, rfl, hx, hce, hcv, hcl, rfl, hL, rfl, rfl⟩, ?_⟩
    show Steps p.tables e below _ (((({ U with heap := s₂.heap, slotsUsed := s₂.slotsUsed } : State).setVm s₂.vm).setTop g).pushFrame (.throwing q))
    rw [← hs₂]
    exact hsteps
end Payer
section Calls
variable {p : Program} {l : Launch} {e : Env} {R : Room} {s : State} {m : MethodId} {args : Array Value} {below : List Frame} {meth : Method} {c : Code} {T : State} {locs : List Loc} {cells slots : Nat}
theorem vx_callV (X : Stand p l e R s m args below meth c T locs cells slots) (hexec : p.tables.exec = Jvm.exec) {own C : String} {index : Nat} {y : MethodName} {bytes : ByteArray} {maxL : Nat} {ret : Option FieldType}
    (hown : s.vm.findClass own = some m.cls) (hlink : (Cond.methodLink own index y).before args s = true) (hinst : (Cond.instanceMethod y).before args s = true) (hsel : (Cond.selects C y y).before args s = true)
    (hcode : (Cond.code y bytes maxL ret).before args s = true) (hy : y.cls ≠ "java/lang/invoke/MethodHandle" ∧ y.cls ≠ "java/lang/invoke/VarHandle")
    {W9 : Nat} {Pre : Pt → Array Value → Prop} {Post : Pt → Array Value → Option Value → Pt → Prop} {PostX : Pt → Array Value → Addr → Pt → Prop} (hK : vx_Back l R p e below s args y 3 W9 Pre Post PostX)
    {b : Addr} {cellB : Cell} (hcell : T.heap[b]? = some cellB) (hobj : cellB.vm.isStatics = false) (hcls : s.vm.findClass C = some cellB.cls)
    {g : JFrame} (hg : g.method = m) (hsize : g.locals.size = c.maxLocals) {argsL rest : List Value} (hlen : ∀ sig, parseMethodDescriptor y.desc = some sig → argsL.length = sig.parameters.length)
    (hstack : g.stack = argsL.reverse ++ .ref b :: rest) (hW : 2 * g.monitorRoom + (rest.map fun v => v.category).sum ≤ W9) (hdg : decode c.code g.pc = .ok (.invokevirtual index, 3))
    (hpre : ∀ vm₁, s.WarmedH vm₁ → Pre ⟨T.setVm vm₁, locs, cells, slots⟩ (Value.ref b :: argsL).toArray) :
    (∃ (v : Option Value) (vm₁ : Vm) (B : Pt), s.WarmedH vm₁ ∧ Stand p l e R s m args below meth c B.U B.locs B.cells B.slots ∧ Post ⟨T.setVm vm₁, locs, cells, slots⟩ (Value.ref b :: argsL).toArray v B ∧
      ∀ target, Steps p.tables e below (B.U.setTop { g with pc := g.pc + 3, stack := v.toList ++ rest }) target → Steps p.tables e below (T.setTop g) target) ∨
    (∃ (q : Addr) (vm₁ : Vm) (B : Pt), s.WarmedH vm₁ ∧ Stand p l e R s m args below meth c B.U B.locs B.cells B.slots ∧ PostX ⟨T.setVm vm₁, locs, cells, slots⟩ (Value.ref b :: argsL).toArray q B ∧
      Steps p.tables e below (T.setTop g) ((B.U.setTop { g with stack := rest }).pushFrame (.throwing q))) := by
  obtain ⟨mk, methM, hnamed, hmethM, hstM, habM⟩ := Cond.instanceMethod_spec hinst
  obtain ⟨methM', cM, hmethM', -, -, -, -, -, -, hsigM⟩ := Cond.code_spec hnamed hcode
  cases hmethM.symm.trans hmethM'
  obtain ⟨c2, r2, m2, q1, q2, q3, q4, kP, hkP, hkPi⟩ := Cond.selects_spec hsel
  cases hcls.symm.trans q1
  cases (State.methodFound?_of_named hnamed hy).symm.trans q2
  cases hnamed.symm.trans q3
  have hselP : selectMethod e.platform s.vm cellB.cls mk = .method mk := by rw [Launch.admits_selectMethod X.admits]; exact q4
  obtain ⟨vm₁, X₁, hstep₁⟩ := X.invokevirtual hexec hown hlink hnamed hmethM hstM hkP hkPi hy (a := b) (cell := cellB) hcell
    (fun z h => by rw [h] at hobj; cases hobj) hselP hmethM habM hkP hkPi (g := g) hg (argsL := argsL) (rest := rest) (hlen _ hsigM) hstack hdg
  rcases hK m meth c ⟨T.setVm vm₁, locs, cells, slots⟩ { g with stack := rest } (.invokevirtual index) mk (Value.ref b :: argsL).toArray X₁ hg hsize hdg hW (X₁.named hnamed) (hpre vm₁ X₁.warmed) with ⟨v, B, X', hpost, hsteps⟩ | ⟨q, B, X', hpost, hsteps⟩
  · exact Or.inl ⟨v, vm₁, B, X₁.warmed, X', hpost, fun target h => hstep₁ _ fun acts => by rw [doInvoke_state]; exact hsteps.trans h⟩
  · exact Or.inr ⟨q, vm₁, B, X₁.warmed, X', hpost, hstep₁ _ fun acts => by rw [doInvoke_state]; exact hsteps⟩
theorem vx_callS (X : Stand p l e R s m args below meth c T locs cells slots) (hexec : p.tables.exec = Jvm.exec) {own : String} {index : Nat} {y : MethodName} {bytes : ByteArray} {maxL : Nat} {ret : Option FieldType}
    (hown : s.vm.findClass own = some m.cls) (hlink : (Cond.methodLink own index y).before args s = true) (hstat : (Cond.static y).before args s = true) (hinit : (Cond.initialized y.cls).before args s = true)
    (hcode : (Cond.code y bytes maxL ret).before args s = true) (hy : y.cls ≠ "java/lang/invoke/MethodHandle" ∧ y.cls ≠ "java/lang/invoke/VarHandle")
    {W9 : Nat} {Pre : Pt → Array Value → Prop} {Post : Pt → Array Value → Option Value → Pt → Prop} {PostX : Pt → Array Value → Addr → Pt → Prop} (hK : vx_Back l R p e below s args y 3 W9 Pre Post PostX)
    {g : JFrame} (hg : g.method = m) (hsize : g.locals.size = c.maxLocals) {argsL rest : List Value} (hlen : ∀ sig, parseMethodDescriptor y.desc = some sig → argsL.length = sig.parameters.length)
    (hstack : g.stack = argsL.reverse ++ rest) (hW : 2 * g.monitorRoom + (rest.map fun v => v.category).sum ≤ W9) (hdg : decode c.code g.pc = .ok (.invokestatic index, 3))
    (hpre : ∀ vm₁, s.WarmedH vm₁ → Pre ⟨T.setVm vm₁, locs, cells, slots⟩ argsL.toArray) :
    (∃ (v : Option Value) (vm₁ : Vm) (B : Pt), s.WarmedH vm₁ ∧ Stand p l e R s m args below meth c B.U B.locs B.cells B.slots ∧ Post ⟨T.setVm vm₁, locs, cells, slots⟩ argsL.toArray v B ∧
      ∀ target, Steps p.tables e below (B.U.setTop { g with pc := g.pc + 3, stack := v.toList ++ rest }) target → Steps p.tables e below (T.setTop g) target) ∨
    (∃ (q : Addr) (vm₁ : Vm) (B : Pt), s.WarmedH vm₁ ∧ Stand p l e R s m args below meth c B.U B.locs B.cells B.slots ∧ PostX ⟨T.setVm vm₁, locs, cells, slots⟩ argsL.toArray q B ∧
      Steps p.tables e below (T.setTop g) ((B.U.setTop { g with stack := rest }).pushFrame (.throwing q))) := by
  obtain ⟨mk, hnamed⟩ := Cond.code_named hcode
  obtain ⟨methM, cM, hmethM, -, -, -, -, -, -, hsigM⟩ := Cond.code_spec hnamed hcode
  have hstatic : methM.isStatic = true := Cond.static_spec hnamed hmethM hstat
  obtain ⟨kP, hkP, -⟩ := className_of_methodNamed hnamed
  have hinitP : kP.init = .initialized := Cond.initialized_spec (findClass_of_methodNamed hnamed) hkP hinit
  obtain ⟨vm₁, X₁, hstep₁⟩ := X.invokestatic hexec hown hlink hnamed hmethM hstatic hkP hinitP hy (g := g) hg (argsL := argsL) (rest := rest) (hlen _ hsigM) hstack hdg
  rcases hK m meth c ⟨T.setVm vm₁, locs, cells, slots⟩ { g with stack := rest } (.invokestatic index) mk argsL.toArray X₁ hg hsize hdg hW (X₁.named hnamed) (hpre vm₁ X₁.warmed) with ⟨v, B, X', hpost, hsteps⟩ | ⟨q, B, X', hpost, hsteps⟩
  · exact Or.inl ⟨v, vm₁, B, X₁.warmed, X', hpost, fun target h => hstep₁ _ fun acts => by rw [doInvoke_state]; exact hsteps.trans h⟩
  · exact Or.inr ⟨q, vm₁, B, X₁.warmed, X', hpost, hstep₁ _ fun acts => by rw [doInvoke_state]; exact hsteps⟩
end Calls
theorem vx_cls {s : State} {T : State} {vm₁ : Vm} {E : String} {k : ClassId} (hW : s.WarmedH vm₁) (h : (T.setVm vm₁).vm.findClass E = some k) : s.vm.findClass E = some k := by
  have h1 : vm₁.findClass E = some k := h
  rw [hW.alike.findClass] at h1
  exact h1
/-- the method's frame g, with q thrown over it -/
def vx_W (p : Program) (l : Launch) (e : Env) (R : Room) (s : State) (m : MethodId) (args : Array Value) (below : List Frame) (meth : Method) (c : Code) (H : Heap) (locs : List Loc) (cells slots : Nat) (Q : State → Prop) (g : JFrame) (q : Addr) : Prop :=
  ∀ T : State, T.heap = H → Stand p l e R s m args below meth c T locs cells slots → ∃ t, Steps p.tables e below ((T.setTop g).pushFrame (.throwing q)) t ∧ Q t
def vx_Run (p : Program) (l : Launch) (e : Env) (R : Room) (s : State) (m : MethodId) (args : Array Value) (below : List Frame) (meth : Method) (c : Code) (H : Heap) (locs : List Loc) (cells slots mc ms : Nat) (g : JFrame) (rest : List Value) (Qa : State → Outcome → State → Prop) (XC : String → State → State → Prop) (free : Addr → Prop) : Prop :=
  ∀ T : State, T.heap = H → Stand p l e R s m args below meth c T locs cells slots →
    (∃ (v : Option Value) (st₀ t T' : State) (L : List Loc), st₀.heap = H ∧ Stand p l e R s m args below meth c T' (locs ++ L) (cells + mc) (slots + ms) ∧ (∀ q ∈ L, free q.base) ∧ T'.heap = t.heap ∧ T'.vm = t.vm ∧ Qa st₀ (.returned v) t ∧
      Goes p e below T g T' { g with pc := g.pc + 3, stack := v.toList ++ rest }) ∨
    (∃ (q : Addr) (st₀ t T' : State) (L : List Loc) (E : String) (ce : Cell), st₀.heap = H ∧ Stand p l e R s m args below meth c T' (locs ++ L) (cells + mc) (slots + ms) ∧ (∀ z ∈ L, free z.base) ∧ T'.heap = t.heap ∧ T'.vm = t.vm ∧ XC E st₀ t ∧ t.heap[q]? = some ce ∧ ce.vm = .none ∧ s.vm.findClass E = some ce.cls ∧
      Steps p.tables e below (T.setTop g) ((T'.setTop { g with stack := rest }).pushFrame (.throwing q)))
def vx_X {S : Type} (px : S → Prop) (B : String → S → State → Prop) (A : Nat → Prop) : String → State → State → Prop := fun E st t => ∃ u : S, px u ∧ B E u t ∧ va_F A st t
section Runs
variable {p : Program} {l : Launch} {e : Env} {R : Room} {s : State} {m : MethodId} {args : Array Value} {below : List Frame} {meth : Method} {c : Code} {H : Heap} {locs : List Loc} {cells slots : Nat}
variable {y : MethodName} {bytes cc : ByteArray} {maxL nL mc ms n index : Nat} {ret : Option FieldType} {ws : List Cond} {rm : Room} {Pc : Array Value → State → Prop} {Qc : Array Value → State → Outcome → State → Prop} {XC : String → State → State → Prop} {free : Addr → Prop} {Ts : List Cond} {own C : String} {b : Addr} {As rest : List Value} {g : JFrame}
theorem vx_callBack (cb : CallB R s args own index y bytes maxL ret ws rm mc ms n) (hM : vx_Met l y ws rm Pc Qc XC mc ms free) (hbl : FrameBlind Pc) : vx_Back l R p e below s args y 3 8 (PreOf R mc ms Pc) (PostOf Qc mc ms free) (vx_Post XC mc ms free) := by
  obtain ⟨hrc, hrs, hfr, hlo, hws, hcw, -, hini, -⟩ := cb
  exact vx_back (bytes := bytes) (maxL := maxL) (ret := ret) hM hbl hrc hrs hfr hlo hws hcw (fun a' U hW => word_at hW (Or.inl (by first | rfl | simp [Cond.onTables, Cond.keeps, Cond.steady])) hini)
theorem vx_runV (S : CallFix p m c cc nL s args Ts own) (hM : vx_Met l y ws rm Pc Qc XC mc ms free) (cw : CallW R s args own C index y bytes maxL ret ws rm mc ms n) (hp : PreV s H C b Pc As)
    (hg : g.method = m) (hn : As.length = n) (hsize : g.locals.size = nL) (hstack : g.stack = As.reverse ++ .ref b :: rest) (hW : 2 * g.monitorRoom + (rest.map fun v => v.category).sum ≤ 8) (hdg : decode cc g.pc = .ok (.invokevirtual index, 3)) (hf : cells + mc ≤ R.cells ∧ slots + ms ≤ R.slots) :
    vx_Run p l e R s m args below meth c H locs cells slots mc ms g rest (Qc (Value.ref b :: As).toArray) XC free := by
  have hK : vx_Back l R p e below s args y 3 8 (PreOf R mc ms Pc) (PostOf Qc mc ms free) (vx_Post XC mc ms free) := vx_callBack cw.1 hM hp.1
  obtain ⟨⟨-, -, -, -, -, -, hcode, -, hy, hlen, hl⟩, hin, hse⟩ := cw
  obtain ⟨hx, hb, hml, ho, -⟩ := S
  obtain ⟨-, ⟨cellB, hcB, hoB, hclB⟩, hPc⟩ := hp
  intro T hT X
  rcases vx_callV X hx (C := C) (bytes := bytes) (maxL := maxL) (ret := ret) ho hl hin hse hcode hy hK (by rw [hT]; exact hcB) hoB hclB hg (hsize.trans hml.symm) (argsL := As) (rest := rest) (fun sig h => hn.trans (hlen sig h)) hstack hW (by rw [hb]; exact hdg)
    (fun vm₁ hW₁ => ⟨hf.1, hf.2, hPc (T.setVm vm₁) hT hW₁⟩) with ⟨v, vm₁, ⟨U', l2, c2, s2⟩, hW₁, X', ⟨g', mk, t, L, e1, e2, hq, h1, hL, h2, h3⟩, st⟩ | ⟨q, vm₁, ⟨U', l2, c2, s2⟩, hW₁, X', ⟨g', mk, t, L, E, ce, e1, e2, hq, hce, hcv, hcl, h1, hL, h2, h3⟩, st⟩
  · dsimp only [Pt.U, Pt.locs, Pt.cells, Pt.slots] at X' e1 e2 h1 h2 h3 st
    subst h1; subst h2; subst h3
    exact Or.inl ⟨v, (T.setVm vm₁).calling g' mk (Value.ref b :: As).toArray, t, U', L, hT, X', hL, e1, e2, hq, st⟩
  · dsimp only [Pt.U, Pt.locs, Pt.cells, Pt.slots] at X' e1 e2 h1 h2 h3 st hcl
    subst h1; subst h2; subst h3
    exact Or.inr ⟨q, (T.setVm vm₁).calling g' mk (Value.ref b :: As).toArray, t, U', L, E, ce, hT, X', hL, e1, e2, hq, hce, hcv, vx_cls hW₁ hcl, st⟩
theorem vx_runS (S : CallFix p m c cc nL s args Ts own) (hM : vx_Met l y ws rm Pc Qc XC mc ms free) (cw : CallB R s args own index y bytes maxL ret ws rm mc ms n ∧ (Cond.static y).before args s = true) (hp : PreS s H Pc As)
    (hg : g.method = m) (hn : As.length = n) (hsize : g.locals.size = nL) (hstack : g.stack = As.reverse ++ rest) (hW : 2 * g.monitorRoom + (rest.map fun v => v.category).sum ≤ 8) (hdg : decode cc g.pc = .ok (.invokestatic index, 3)) (hf : cells + mc ≤ R.cells ∧ slots + ms ≤ R.slots) :
    vx_Run p l e R s m args below meth c H locs cells slots mc ms g rest (Qc As.toArray) XC free := by
  have hK : vx_Back l R p e below s args y 3 8 (PreOf R mc ms Pc) (PostOf Qc mc ms free) (vx_Post XC mc ms free) := vx_callBack cw.1 hM hp.1
  obtain ⟨⟨-, -, -, -, -, -, hcode, hini, hy, hlen, hl⟩, hstt⟩ := cw
  obtain ⟨hx, hb, hml, ho, -⟩ := S
  intro T hT X
  rcases vx_callS X hx (bytes := bytes) (maxL := maxL) (ret := ret) ho hl hstt hini hcode hy hK hg (hsize.trans hml.symm) (argsL := As) (rest := rest) (fun sig h => hn.trans (hlen sig h)) hstack hW (by rw [hb]; exact hdg)
    (fun vm₁ hW₁ => ⟨hf.1, hf.2, hp.2 (T.setVm vm₁) hT hW₁⟩) with ⟨v, vm₁, ⟨U', l2, c2, s2⟩, hW₁, X', ⟨g', mk, t, L, e1, e2, hq, h1, hL, h2, h3⟩, st⟩ | ⟨q, vm₁, ⟨U', l2, c2, s2⟩, hW₁, X', ⟨g', mk, t, L, E, ce, e1, e2, hq, hce, hcv, hcl, h1, hL, h2, h3⟩, st⟩
  · dsimp only [Pt.U, Pt.locs, Pt.cells, Pt.slots] at X' e1 e2 h1 h2 h3 st
    subst h1; subst h2; subst h3
    exact Or.inl ⟨v, (T.setVm vm₁).calling g' mk As.toArray, t, U', L, hT, X', hL, e1, e2, hq, st⟩
  · dsimp only [Pt.U, Pt.locs, Pt.cells, Pt.slots] at X' e1 e2 h1 h2 h3 st hcl
    subst h1; subst h2; subst h3
    exact Or.inr ⟨q, (T.setVm vm₁).calling g' mk As.toArray, t, U', L, E, ce, hT, X', hL, e1, e2, hq, hce, hcv, vx_cls hW₁ hcl, st⟩
end Runs
section Rows
variable {p : Program} {l : Launch} {e : Env} {R : Room} {s : State} {m : MethodId} {args : Array Value} {below : List Frame} {meth : Method} {c : Code} {H : Heap} {locs : List Loc} {cells slots : Nat} {Q : State → Prop}
variable {mc ms : Nat} {free : Addr → Prop} {A0 A1 : Nat → Prop} {H0 : Heap} {a : Array Value} {pc : Nat} {ls : Array Slot} {st0 rest : List Value}
theorem vx_keep {st₀ t T' : State} {L : List Loc} (h0 : st₀.heap = H) (e1 : T'.heap = t.heap) (hS : va_S A0 H0 H locs) (hA : ∀ q, q < H.size → A1 q → A0 q) (hf : ∀ q, free q → A0 q) (hL : ∀ q ∈ L, free q.base) (hF : va_F A1 st₀ t) :
    H.size ≤ T'.heap.size ∧ (∀ q : Nat, q < H.size → ¬ A1 q → T'.heap[q]? = H[q]?) ∧ va_S A0 H0 T'.heap (locs ++ L) := by
  obtain ⟨hz, hk⟩ := hF
  rw [h0] at hz hk
  exact ⟨by rw [e1]; exact hz, fun q h1 h2 => by rw [e1]; exact hk q h1 h2,
    ⟨Nat.le_trans hS.1 (by rw [e1]; exact hz), fun q h1 h2 => by rw [e1, hk q (Nat.lt_of_lt_of_le h1 hS.1) (fun z => h2 (hA q (Nat.lt_of_lt_of_le h1 hS.1) z))]; exact hS.2.1 q h1 h2, fun q hq => by
      rcases List.mem_append.mp hq with h | h
      · exact hS.2.2 q h
      · exact hf _ (hL q h)⟩⟩
theorem vx_calli {S SX : Type} {post : Int32 → S → Prop} {px : SX → Prop} {B : S → State → Prop} {BX : String → SX → State → Prop} {AX : Nat → Prop} (hr : vx_Run p l e R s m args below meth c H locs cells slots mc ms (F0 m pc ls st0) rest (va_Qi post B A1 a) (vx_X px BX AX) free) (hS : va_S A0 H0 H locs) (hA : ∀ q, q < H.size → A1 q → A0 q) (hf : ∀ q, free q → A0 q) (hAX : ∀ q, q < H.size → AX q → A0 q)
    (kx : ∀ (E : String) (ce : Cell) (q9 : Addr) (u : SX) (t : State) (H1 : Heap) (locs1 : List Loc), t.heap = H1 → s.vm.Alike t.vm → px u → BX E u t → H.size ≤ H1.size → (∀ q : Nat, q < H.size → ¬ AX q → H1[q]? = H[q]?) → va_S A0 H0 H1 locs1 → H1[q9]? = some ce → ce.vm = .none → s.vm.findClass E = some ce.cls → vx_W p l e R s m args below meth c H1 locs1 (cells + mc) (slots + ms) Q (F0 m pc ls rest) q9)
    (kk : ∀ (r : Int32) (u : S) (t : State) (H1 : Heap) (locs1 : List Loc), t.heap = H1 → s.vm.Alike t.vm → post r u → B u t → H.size ≤ H1.size → (∀ q : Nat, q < H.size → ¬ A1 q → H1[q]? = H[q]?) → va_S A0 H0 H1 locs1 → W p l e R s m args below meth c H1 locs1 (cells + mc) (slots + ms) Q (F0 m (pc + 3) ls (.int r :: rest))) : W p l e R s m args below meth c H locs cells slots Q (F0 m pc ls st0) := by
  intro T hT X
  rcases hr T hT X with ⟨v, st₀, t, T', L, h0, X', hL, e1, e2, ⟨⟨r, u, hv, hp, hb⟩, hF⟩, st⟩ | ⟨q, st₀, t, T', L, E, ce, h0, X', hL, e1, e2, ⟨u, hp, hb, hF⟩, hce, hcv, hcl, st⟩
  · cases hv
    obtain ⟨k1, k2, k3⟩ := vx_keep h0 e1 hS hA hf hL hF
    obtain ⟨t2, a1, b1⟩ := kk r u t T'.heap (locs ++ L) e1.symm (by rw [← e2]; exact X'.warmed.alike) hp hb k1 k2 k3 T' rfl X'
    exact ⟨t2, st t2 a1, b1⟩
  · obtain ⟨k1, k2, k3⟩ := vx_keep h0 e1 hS hAX hf hL hF
    obtain ⟨t2, a1, b1⟩ := kx E ce q u t T'.heap (locs ++ L) e1.symm (by rw [← e2]; exact X'.warmed.alike) hp hb k1 k2 k3 (by rw [e1]; exact hce) hcv hcl T' rfl X'
    exact ⟨t2, st.trans a1, b1⟩
theorem vx_calll {S SX : Type} {post : Int64 → S → Prop} {px : SX → Prop} {B : S → State → Prop} {BX : String → SX → State → Prop} {AX : Nat → Prop} (hr : vx_Run p l e R s m args below meth c H locs cells slots mc ms (F0 m pc ls st0) rest (va_Ql post B A1 a) (vx_X px BX AX) free) (hS : va_S A0 H0 H locs) (hA : ∀ q, q < H.size → A1 q → A0 q) (hf : ∀ q, free q → A0 q) (hAX : ∀ q, q < H.size → AX q → A0 q)
    (kx : ∀ (E : String) (ce : Cell) (q9 : Addr) (u : SX) (t : State) (H1 : Heap) (locs1 : List Loc), t.heap = H1 → s.vm.Alike t.vm → px u → BX E u t → H.size ≤ H1.size → (∀ q : Nat, q < H.size → ¬ AX q → H1[q]? = H[q]?) → va_S A0 H0 H1 locs1 → H1[q9]? = some ce → ce.vm = .none → s.vm.findClass E = some ce.cls → vx_W p l e R s m args below meth c H1 locs1 (cells + mc) (slots + ms) Q (F0 m pc ls rest) q9)
    (kk : ∀ (r : Int64) (u : S) (t : State) (H1 : Heap) (locs1 : List Loc), t.heap = H1 → s.vm.Alike t.vm → post r u → B u t → H.size ≤ H1.size → (∀ q : Nat, q < H.size → ¬ A1 q → H1[q]? = H[q]?) → va_S A0 H0 H1 locs1 → W p l e R s m args below meth c H1 locs1 (cells + mc) (slots + ms) Q (F0 m (pc + 3) ls (.long r :: rest))) : W p l e R s m args below meth c H locs cells slots Q (F0 m pc ls st0) := by
  intro T hT X
  rcases hr T hT X with ⟨v, st₀, t, T', L, h0, X', hL, e1, e2, ⟨⟨r, u, hv, hp, hb⟩, hF⟩, st⟩ | ⟨q, st₀, t, T', L, E, ce, h0, X', hL, e1, e2, ⟨u, hp, hb, hF⟩, hce, hcv, hcl, st⟩
  · cases hv
    obtain ⟨k1, k2, k3⟩ := vx_keep h0 e1 hS hA hf hL hF
    obtain ⟨t2, a1, b1⟩ := kk r u t T'.heap (locs ++ L) e1.symm (by rw [← e2]; exact X'.warmed.alike) hp hb k1 k2 k3 T' rfl X'
    exact ⟨t2, st t2 a1, b1⟩
  · obtain ⟨k1, k2, k3⟩ := vx_keep h0 e1 hS hAX hf hL hF
    obtain ⟨t2, a1, b1⟩ := kx E ce q u t T'.heap (locs ++ L) e1.symm (by rw [← e2]; exact X'.warmed.alike) hp hb k1 k2 k3 (by rw [e1]; exact hce) hcv hcl T' rfl X'
    exact ⟨t2, st.trans a1, b1⟩
theorem vx_callf {S SX : Type} {post : UInt32 → S → Prop} {px : SX → Prop} {B : S → State → Prop} {BX : String → SX → State → Prop} {AX : Nat → Prop} (hr : vx_Run p l e R s m args below meth c H locs cells slots mc ms (F0 m pc ls st0) rest (va_Qf post B A1 a) (vx_X px BX AX) free) (hS : va_S A0 H0 H locs) (hA : ∀ q, q < H.size → A1 q → A0 q) (hf : ∀ q, free q → A0 q) (hAX : ∀ q, q < H.size → AX q → A0 q)
    (kx : ∀ (E : String) (ce : Cell) (q9 : Addr) (u : SX) (t : State) (H1 : Heap) (locs1 : List Loc), t.heap = H1 → s.vm.Alike t.vm → px u → BX E u t → H.size ≤ H1.size → (∀ q : Nat, q < H.size → ¬ AX q → H1[q]? = H[q]?) → va_S A0 H0 H1 locs1 → H1[q9]? = some ce → ce.vm = .none → s.vm.findClass E = some ce.cls → vx_W p l e R s m args below meth c H1 locs1 (cells + mc) (slots + ms) Q (F0 m pc ls rest) q9)
    (kk : ∀ (r : UInt32) (u : S) (t : State) (H1 : Heap) (locs1 : List Loc), t.heap = H1 → s.vm.Alike t.vm → post r u → B u t → H.size ≤ H1.size → (∀ q : Nat, q < H.size → ¬ A1 q → H1[q]? = H[q]?) → va_S A0 H0 H1 locs1 → W p l e R s m args below meth c H1 locs1 (cells + mc) (slots + ms) Q (F0 m (pc + 3) ls (.float r :: rest))) : W p l e R s m args below meth c H locs cells slots Q (F0 m pc ls st0) := by
  intro T hT X
  rcases hr T hT X with ⟨v, st₀, t, T', L, h0, X', hL, e1, e2, ⟨⟨r, u, hv, hp, hb⟩, hF⟩, st⟩ | ⟨q, st₀, t, T', L, E, ce, h0, X', hL, e1, e2, ⟨u, hp, hb, hF⟩, hce, hcv, hcl, st⟩
  · cases hv
    obtain ⟨k1, k2, k3⟩ := vx_keep h0 e1 hS hA hf hL hF
    obtain ⟨t2, a1, b1⟩ := kk r u t T'.heap (locs ++ L) e1.symm (by rw [← e2]; exact X'.warmed.alike) hp hb k1 k2 k3 T' rfl X'
    exact ⟨t2, st t2 a1, b1⟩
  · obtain ⟨k1, k2, k3⟩ := vx_keep h0 e1 hS hAX hf hL hF
    obtain ⟨t2, a1, b1⟩ := kx E ce q u t T'.heap (locs ++ L) e1.symm (by rw [← e2]; exact X'.warmed.alike) hp hb k1 k2 k3 (by rw [e1]; exact hce) hcv hcl T' rfl X'
    exact ⟨t2, st.trans a1, b1⟩
theorem vx_calld {S SX : Type} {post : UInt64 → S → Prop} {px : SX → Prop} {B : S → State → Prop} {BX : String → SX → State → Prop} {AX : Nat → Prop} (hr : vx_Run p l e R s m args below meth c H locs cells slots mc ms (F0 m pc ls st0) rest (va_Qd post B A1 a) (vx_X px BX AX) free) (hS : va_S A0 H0 H locs) (hA : ∀ q, q < H.size → A1 q → A0 q) (hf : ∀ q, free q → A0 q) (hAX : ∀ q, q < H.size → AX q → A0 q)
    (kx : ∀ (E : String) (ce : Cell) (q9 : Addr) (u : SX) (t : State) (H1 : Heap) (locs1 : List Loc), t.heap = H1 → s.vm.Alike t.vm → px u → BX E u t → H.size ≤ H1.size → (∀ q : Nat, q < H.size → ¬ AX q → H1[q]? = H[q]?) → va_S A0 H0 H1 locs1 → H1[q9]? = some ce → ce.vm = .none → s.vm.findClass E = some ce.cls → vx_W p l e R s m args below meth c H1 locs1 (cells + mc) (slots + ms) Q (F0 m pc ls rest) q9)
    (kk : ∀ (r : UInt64) (u : S) (t : State) (H1 : Heap) (locs1 : List Loc), t.heap = H1 → s.vm.Alike t.vm → post r u → B u t → H.size ≤ H1.size → (∀ q : Nat, q < H.size → ¬ A1 q → H1[q]? = H[q]?) → va_S A0 H0 H1 locs1 → W p l e R s m args below meth c H1 locs1 (cells + mc) (slots + ms) Q (F0 m (pc + 3) ls (.double r :: rest))) : W p l e R s m args below meth c H locs cells slots Q (F0 m pc ls st0) := by
  intro T hT X
  rcases hr T hT X with ⟨v, st₀, t, T', L, h0, X', hL, e1, e2, ⟨⟨r, u, hv, hp, hb⟩, hF⟩, st⟩ | ⟨q, st₀, t, T', L, E, ce, h0, X', hL, e1, e2, ⟨u, hp, hb, hF⟩, hce, hcv, hcl, st⟩
  · cases hv
    obtain ⟨k1, k2, k3⟩ := vx_keep h0 e1 hS hA hf hL hF
    obtain ⟨t2, a1, b1⟩ := kk r u t T'.heap (locs ++ L) e1.symm (by rw [← e2]; exact X'.warmed.alike) hp hb k1 k2 k3 T' rfl X'
    exact ⟨t2, st t2 a1, b1⟩
  · obtain ⟨k1, k2, k3⟩ := vx_keep h0 e1 hS hAX hf hL hF
    obtain ⟨t2, a1, b1⟩ := kx E ce q u t T'.heap (locs ++ L) e1.symm (by rw [← e2]; exact X'.warmed.alike) hp hb k1 k2 k3 (by rw [e1]; exact hce) hcv hcl T' rfl X'
    exact ⟨t2, st.trans a1, b1⟩
theorem vx_callv {S SX : Type} {post : S → Prop} {px : SX → Prop} {B : S → State → Prop} {BX : String → SX → State → Prop} {AX : Nat → Prop} (hr : vx_Run p l e R s m args below meth c H locs cells slots mc ms (F0 m pc ls st0) rest (va_Qv post B A1 a) (vx_X px BX AX) free) (hS : va_S A0 H0 H locs) (hA : ∀ q, q < H.size → A1 q → A0 q) (hf : ∀ q, free q → A0 q) (hAX : ∀ q, q < H.size → AX q → A0 q)
    (kx : ∀ (E : String) (ce : Cell) (q9 : Addr) (u : SX) (t : State) (H1 : Heap) (locs1 : List Loc), t.heap = H1 → s.vm.Alike t.vm → px u → BX E u t → H.size ≤ H1.size → (∀ q : Nat, q < H.size → ¬ AX q → H1[q]? = H[q]?) → va_S A0 H0 H1 locs1 → H1[q9]? = some ce → ce.vm = .none → s.vm.findClass E = some ce.cls → vx_W p l e R s m args below meth c H1 locs1 (cells + mc) (slots + ms) Q (F0 m pc ls rest) q9)
    (kk : ∀ (u : S) (t : State) (H1 : Heap) (locs1 : List Loc), t.heap = H1 → s.vm.Alike t.vm → post u → B u t → H.size ≤ H1.size → (∀ q : Nat, q < H.size → ¬ A1 q → H1[q]? = H[q]?) → va_S A0 H0 H1 locs1 → W p l e R s m args below meth c H1 locs1 (cells + mc) (slots + ms) Q (F0 m (pc + 3) ls (rest))) : W p l e R s m args below meth c H locs cells slots Q (F0 m pc ls st0) := by
  intro T hT X
  rcases hr T hT X with ⟨v, st₀, t, T', L, h0, X', hL, e1, e2, ⟨⟨u, hv, hp, hb⟩, hF⟩, st⟩ | ⟨q, st₀, t, T', L, E, ce, h0, X', hL, e1, e2, ⟨u, hp, hb, hF⟩, hce, hcv, hcl, st⟩
  · cases hv
    obtain ⟨k1, k2, k3⟩ := vx_keep h0 e1 hS hA hf hL hF
    obtain ⟨t2, a1, b1⟩ := kk u t T'.heap (locs ++ L) e1.symm (by rw [← e2]; exact X'.warmed.alike) hp hb k1 k2 k3 T' rfl X'
    exact ⟨t2, st t2 a1, b1⟩
  · obtain ⟨k1, k2, k3⟩ := vx_keep h0 e1 hS hAX hf hL hF
    obtain ⟨t2, a1, b1⟩ := kx E ce q u t T'.heap (locs ++ L) e1.symm (by rw [← e2]; exact X'.warmed.alike) hp hb k1 k2 k3 (by rw [e1]; exact hce) hcv hcl T' rfl X'
    exact ⟨t2, st.trans a1, b1⟩
/-- caught by the row x of this method's table; the rows ahead don't take it -/
theorem vx_catch {own name : String} {E : String} {ce : Cell} {q : Addr} (hown : s.vm.findClass own = some m.cls) (pre : List ExceptionTableEntry) (x : ExceptionTableEntry) (suf : List ExceptionTableEntry) (hsplit : c.exceptionTable.toList = pre ++ x :: suf)
    (hpass : ∀ z ∈ pre, covers z pc = false ∨ (z.catchType ≠ 0 ∧ ∃ nm : String, (Cond.classLink own z.catchType nm).before args s = true ∧ va_Nc E nm s)) (hx : covers x pc = true) (h0 : x.catchType ≠ 0)
    (hlink : (Cond.classLink own x.catchType name).before args s = true) (hcast : (Cond.castable E name).before args s = true) (hcell : H[q]? = some ce) (hv : ce.vm = .none) (hcl : s.vm.findClass E = some ce.cls)
    (kk : W p l e R s m args below meth c H locs cells slots Q (F0 m x.handlerPc ls [.ref q])) : vx_W p l e R s m args below meth c H locs cells slots Q (F0 m pc ls rest) q := by
  intro T hT X
  have hpl : e.platform.magicAccessors = ({} : Platform).magicAccessors := by rw [X.admits.platform]
  obtain ⟨c3, c4, hc3, hc4, hasg⟩ := Cond.castable_spec hcast
  cases Option.some.inj (hc3.symm.trans hcl)
  obtain ⟨c5, hc5, hcl5⟩ := Cond.classLink_spec hown hlink e.platform hpl
  cases Option.some.inj (hc4.symm.trans hc5)
  obtain ⟨vm', X', st⟩ := X.thenCaughtThrough q (g := F0 m pc ls rest) rfl (Steps.refl _) (by rw [hT]; exact hcell) (by rw [hv]; rfl) (by obtain ⟨k9, h9, -⟩ := Vm.findClass_spec hcl; exact ⟨k9, h9⟩) pre x suf hsplit
    (fun z hz => by
      rcases hpass z hz with h | ⟨hz0, nm, hl1, hn1⟩
      · exact Or.inl h
      · obtain ⟨c6, hc6, hcl6⟩ := Cond.classLink_spec hown hl1 e.platform hpl
        obtain ⟨a8, b8, h1, h2, h3⟩ := hn1
        cases Option.some.inj (h1.symm.trans hcl)
        cases Option.some.inj (h2.symm.trans hc6)
        exact Or.inr ⟨hz0, _, hcl6, h3⟩) hx (Or.inr ⟨h0, c4, hcl5, hasg⟩)
  obtain ⟨t, a1, b1⟩ := kk (T.setVm vm') hT X'
  exact ⟨t, st.trans a1, b1⟩
end Rows
section Ends
variable {p : Program} {l : Launch} {e : Env} {R : Room} {s : State} {m : MethodId} {args : Array Value} {below : List Frame} {meth : Method} {c : Code} {H : Heap} {locs : List Loc} {cells slots : Nat} {Q : State → Prop}
variable {mc ms : Nat} {free : Addr → Prop} {A0 A1 : Nat → Prop} {H0 : Heap} {a : Array Value} {ls : Array Slot} {st0 rest : List Value}
variable {Qc : Array Value → State → Outcome → State → Prop} {XC : String → State → State → Prop}
/-- what a body that may throw owes at its end -/
def vx_MQ (below : List Frame) (Qc : Array Value → State → Outcome → State → Prop) (XC : String → State → State → Prop) (a : Array Value) (s : State) (mc ms : Nat) (free : Addr → Prop) : State → Prop := fun t =>
  ∃ o, t.status = .running ∧ Ended t below o ∧ vx_Q Qc XC mc ms free a s o t
theorem vx_ret {g : JFrame} {mc ms : Nat} (k : W p l e R s m args below meth c H locs cells slots (MQ below Qc args s mc ms free) g) : W p l e R s m args below meth c H locs cells slots (vx_MQ below Qc XC args s mc ms free) g := by
  intro T hT X
  obtain ⟨t, a1, o, b1, b2, b3, b4⟩ := k T hT X
  exact ⟨t, a1, o, b1, b2, Or.inl ⟨b3, b4⟩⟩
/-- not caught here: it goes on to the caller -/
theorem vx_widen {g : JFrame} {q : Addr} {k n : Nat} (h1 : cells ≤ k) (h2 : slots ≤ n) (kk : vx_W p l e R s m args below meth c H locs k n Q g q) : vx_W p l e R s m args below meth c H locs cells slots Q g q := fun T hT X => kk T hT (stand_widen X h1 h2)
theorem vx_out {pc : Nat} {E : String} {ce : Cell} {q : Addr} {mc ms : Nat} (hout : ∀ x ∈ c.exceptionTable.toList, covers x pc = false) (hlocks : meth.locks = false) (hcell : H[q]? = some ce) (hv : ce.vm = .none) (hcl : s.vm.findClass E = some ce.cls)
    (hx : ∀ t : State, t.heap = H → s.vm.Alike t.vm → XC E s t) (hf : ∀ z ∈ locs, free z.base) (hc : cells ≤ mc) (hs : slots ≤ ms) :
    vx_W p l e R s m args below meth c H locs cells slots (vx_MQ below Qc XC args s mc ms free) (F0 m pc ls rest) q := by
  intro T hT X
  obtain ⟨st1, hrun, hend, hW, hsm⟩ := X.leaveThrown q (g := F0 m pc ls rest) rfl rfl rfl hout hlocks
  have hcell9 : (T.setFrames (.throwing q :: below)).heap[q]? = some ce := by
    show T.heap[q]? = some ce
    rw [hT]; exact hcell
  exact ⟨_, st1, .threw q, hrun, hend, Or.inr ⟨q, rfl, E, ce, locs, hx _ hT hW.alike, hcell9, hv, hcl, hW, hsm.mono hc hs, hf⟩⟩
theorem vx_frame {U : State} {k n : Nat} (h : s.sameButNew ({ U with vm := s.vm } : State) locs k n) : s.heap.size ≤ U.heap.size ∧ ∀ q : Nat, q < s.heap.size → (∀ z ∈ locs, z.base ≠ q) → U.heap[q]? = s.heap[q]? := by
  obtain ⟨-, h2, -, -, -, h6⟩ := h
  refine ⟨h2, fun q hq hz => ?_⟩
  obtain ⟨c9, e1, e2, e3, e4⟩ := h6 q _ (Array.getElem?_eq_getElem hq)
  have hs : c9.slots = (s.heap[q]).slots := Array.ext_getElem? fun i => e4 i fun hm => hz _ hm rfl
  have h9 : c9 = s.heap[q] := by
    rw [hs] at e2
    exact e2
  have e5 : U.heap[q]? = some c9 := e1
  rw [e5, h9, Array.getElem?_eq_getElem hq]
/-- the words of a throw but the four that speak of the heap -/
def vx_no (w : Cond) : Bool := decide (w ≠ .isRef (.static Bundle.tN "UNASSIGNED_STACK" Bundle.steD)) && decide (w ≠ .isRef (.static Bundle.tN "SUPPRESSED_SENTINEL" Bundle.listD)) && decide (w ≠ .laysStatic Bundle.tN "UNASSIGNED_STACK" Bundle.steD) && decide (w ≠ .laysStatic Bundle.tN "SUPPRESSED_SENTINEL" Bundle.listD)
def vx_at0 (own : String) (ic : Nat) (X : String) (names : List String) : List Cond := (Bundle.ownAtoms0 own ic X names).filter vx_no
def vx_atS (own : String) (ic : Nat) (X : String) (names : List String) : List Cond := (Bundle.ownAtoms own ic X names).filter vx_no
/-- a word that the tables alone decide, or a good one -/
def vx_ot (w : Cond) : Bool := w.onTables || goodWord w
theorem vx_ot_at {args a' : Array Value} {s U : State} {w : Cond} (hW : s.WarmedH U.vm) (hvm : s.vm = U.vm) (hg : vx_ot w = true) (h : w.before args s = true) : w.before a' U = true := by
  simp only [vx_ot, Bool.or_eq_true] at hg
  rcases hg with hg | hg
  · exact va_tabs hg hvm h
  · exact word_at hW (good_of_word hg) h
/-- a list's words: the good ones out of the method's own list, the others by premises of their own -/
theorem vx_hat {args : Array Value} {s : State} {L B : List Cond} (h1 : ∀ w ∈ L.filter goodWord, w.before args s = true) (h2 : ∀ w ∈ L.filter (fun w => !goodWord w), w ∈ B) (h3 : ∀ w ∈ B, w.before args s = true) : ∀ w ∈ L, w.before args s = true := by
  intro w hw
  by_cases g : goodWord w = true
  · exact h1 w (List.mem_filter.mpr ⟨hw, g⟩)
  · refine h3 w (h2 w (List.mem_filter.mpr ⟨hw, ?_⟩))
    show (!goodWord w) = true
    cases hgw : goodWord w
    · rfl
    · exact absurd hgw g
theorem vx_c {args : Array Value} {s : State} {w : Cond} {B : List Cond} (h : w.before args s = true) (t : ∀ w ∈ B, w.before args s = true) : ∀ w' ∈ w :: B, w'.before args s = true := fun w' h' => (List.mem_cons.mp h').elim (fun e => by rw [e]; exact h) (t w')
theorem vx_n {args : Array Value} {s : State} : ∀ w ∈ ([] : List Cond), w.before args s = true := fun _ h => nomatch h
theorem vx_own {args : Array Value} {s : State} {L : List Cond} (h1 : ∀ w ∈ L.filter vx_no, w.before args s = true)
    (hU : (Cond.isRef (.static Bundle.tN "UNASSIGNED_STACK" Bundle.steD)).before args s = true) (hN : (Cond.isRef (.static Bundle.tN "SUPPRESSED_SENTINEL" Bundle.listD)).before args s = true)
    (lU : (Cond.laysStatic Bundle.tN "UNASSIGNED_STACK" Bundle.steD).before args s = true) (lN : (Cond.laysStatic Bundle.tN "SUPPRESSED_SENTINEL" Bundle.listD).before args s = true) : ∀ w ∈ L, w.before args s = true := by
  intro w hw
  by_cases e1 : w = .isRef (.static Bundle.tN "UNASSIGNED_STACK" Bundle.steD)
  · rw [e1]; exact hU
  · by_cases e2 : w = .isRef (.static Bundle.tN "SUPPRESSED_SENTINEL" Bundle.listD)
    · rw [e2]; exact hN
    · by_cases e3 : w = .laysStatic Bundle.tN "UNASSIGNED_STACK" Bundle.steD
      · rw [e3]; exact lU
      · by_cases e4 : w = .laysStatic Bundle.tN "SUPPRESSED_SENTINEL" Bundle.listD
        · rw [e4]; exact lN
        · exact h1 w (List.mem_filter.mpr ⟨hw, by unfold vx_no; rw [decide_eq_true e1, decide_eq_true e2, decide_eq_true e3, decide_eq_true e4]; rfl⟩)
/-- where a static field lies, its class's statics cell in H -/
def vx_L (C n d : String) (A : Nat → Prop) (U : State) (H : Heap) : Prop := ∃ (c : ClassId) (k : Class) (i : Nat) (f : Field) (a : Nat) (cell : Cell), U.vm.findClass C = some c ∧ U.fieldFound? C n d = some (c, k, i, f) ∧ f.isStatic = true ∧ k.statics = some a ∧ H[a]? = some cell ∧ cell.vm.isStatics = true ∧ cell.cls = c ∧ f.slot < cell.slots.size ∧ k.staticTypes[f.slot]? = some f.type ∧ ¬ A a
theorem vx_L.moved {C n d : String} {A : Nat → Prop} {u U : State} {H : Heap} (hvm : u.vm.Alike U.vm) (h : vx_L C n d A u H) : vx_L C n d A U H := by
  obtain ⟨c, k, i, f, a, cell, h1, h2, h3, h4, h5, h6, h7, h8, h9, h10⟩ := h
  obtain ⟨k', hi', he⟩ := State.fieldFound?_setVm hvm h2
  exact ⟨c, k', i, f, a, cell, by rw [hvm.findClass]; exact h1, hi', h3, by rw [he]; exact h4, h5, h6, h7, h8, by rw [he]; exact h9, h10⟩
theorem vx_L.kept {C n d : String} {A : Nat → Prop} {U : State} {H H1 : Heap} (h : vx_L C n d A U H) (hq : ∀ a : Nat, a < H.size → ¬ A a → H1[a]? = H[a]?) : vx_L C n d A U H1 := by
  obtain ⟨c, k, i, f, a, cell, h1, h2, h3, h4, h5, h6, h7, h8, h9, h10⟩ := h
  exact ⟨c, k, i, f, a, cell, h1, h2, h3, h4, by rw [hq a (Array.getElem?_eq_some_iff.mp h5).1 h10]; exact h5, h6, h7, h8, h9, h10⟩
theorem vx_L.narrow {C n d : String} {A B : Nat → Prop} {U : State} {H : Heap} (h : vx_L C n d A U H) (hAB : ∀ q, B q → A q) : vx_L C n d B U H := by
  obtain ⟨c, k, i, f, a, cell, h1, h2, h3, h4, h5, h6, h7, h8, h9, h10⟩ := h
  exact ⟨c, k, i, f, a, cell, h1, h2, h3, h4, h5, h6, h7, h8, h9, fun z => h10 (hAB _ z)⟩
theorem vx_L.word {C n d : String} {A : Nat → Prop} {s : State} {args : Array Value} (h : vx_L C n d A s s.heap) : (Cond.laysStatic C n d).before args s = true := by
  obtain ⟨c, k, i, f, a, cell, h1, h2, h3, h4, h5, h6, h7, h8, h9, -⟩ := h
  show (Cond.laysStatic C n d).holds args s none s [] = true
  exact Cond.laysStatic_of h1 h2 h3 h4 h5 h6 h7 h8 h9
/-- .. and what it holds: null or some reference -/
def vx_Zq (C n d : String) (A : Nat → Prop) (U : State) (H : Heap) : Prop := va_Zq C n d A U H ∧ vx_L C n d A U H
theorem vx_Zq.moved {C n d : String} {A : Nat → Prop} {u U : State} {H : Heap} (hvm : u.vm.Alike U.vm) (h : vx_Zq C n d A u H) : vx_Zq C n d A U H := ⟨va_Zq.moved hvm h.1, vx_L.moved hvm h.2⟩
theorem vx_Zq.kept {C n d : String} {A : Nat → Prop} {U : State} {H H1 : Heap} (h : vx_Zq C n d A U H) (hq : ∀ a : Nat, a < H.size → ¬ A a → H1[a]? = H[a]?) : vx_Zq C n d A U H1 := ⟨va_Zq.kept h.1 hq, vx_L.kept h.2 hq⟩
theorem vx_Zq.narrow {C n d : String} {A B : Nat → Prop} {U : State} {H : Heap} (h : vx_Zq C n d A U H) (hAB : ∀ q, B q → A q) : vx_Zq C n d B U H := ⟨va_Zq.narrow h.1 hAB, vx_L.narrow h.2 hAB⟩
theorem vx_Zqof {args : Array Value} {s : State} {C n d : String} {A : Nat → Prop} (hl : (Cond.laysStatic C n d).before args s = true) (hini : (Cond.initialized C).before args s = true) (h : (Cond.isRef (.static C n d)).before args s = true) (hA : ∀ a : Nat, a < s.heap.size → ¬ A a) : vx_Zq C n d A s s.heap := by
  refine ⟨va_Zqof hl hini h hA, ?_⟩
  obtain ⟨c, k, i, f, a, cell, h1, h2, h3, h4, h5, h6, h7, h8, h9⟩ := Cond.laysStatic_spec hl
  exact ⟨c, k, i, f, a, cell, h1, h2, h3, h4, h5, h6, h7, h8, h9, hA a (Array.getElem?_eq_some_iff.mp h5).1⟩
theorem vx_isRef {C n d : String} {v : Value} {A : Nat → Prop} {s : State} {args : Array Value} (h : va_Z C n d v A s s.heap) (hv : v.isRef = true) : (Cond.isRef (.static C n d)).before args s = true := by
  obtain ⟨cf, kf, fi, f, a, cell, h1, h2, h3, h4, h5, h6, h7, -⟩ := h
  have he : (Term.static C n d).eval args s none [] s = some v := by
    simp [Term.eval, State.fieldNamed?, h1, h2, h4, h5, h6, h7]
  simp only [Cond.before, Cond.holds, Cond.value, he]
  cases v <;> simp_all [Value.isRef]
theorem vx_isRefq {C n d : String} {A : Nat → Prop} {s : State} {args : Array Value} (h : va_Zq C n d A s s.heap) : (Cond.isRef (.static C n d)).before args s = true := by
  rcases h with h | ⟨t, h⟩
  · exact vx_isRef h rfl
  · exact vx_isRef h rfl
/-- the same frame, seen from here: as if the method were called anew in this heap -/
theorem vx_rebase {T : State} (X : Stand p l e R s m args below meth c T locs cells slots) {R' : Room} (hf : R'.frames ≤ R.frames) (hl : R'.locals ≤ R.locals) (hc : cells + R'.cells ≤ R.cells) (hs : slots + R'.slots ≤ R.slots) :
    Stand p l e R' ((T.setVm s.vm).setFrames (.invoking m args :: below)) m args below meth c T [] 0 0 := by
  have htop : (T.setVm s.vm).topJava?.isSome := X.here.top
  have hF : ((T.setVm s.vm).setFrames (.invoking m args :: below)).frames = .invoking m args :: below := State.frames_setFrames _ (State.cur_lt_of_top htop)
  obtain ⟨g₀, hg0⟩ := Option.isSome_iff_exists.mp htop
  obtain ⟨r, hr⟩ := State.topJava?_eq_some.mp hg0
  have hl9 : e.platform.stackLimits (T.setVm s.vm).me = e.platform.stackLimits s.me := X.limits
  have hb9 : (T.setVm s.vm).me.stackBytes = s.me.stackBytes := X.bytes
  refine ⟨X.admits, X.cas, X.clock, hF, ?_, X.hears, X.method, X.code, X.here, X.tail, X.warmed, ?_, ?_, ?_⟩
  · have h := X.room
    have hU : ((T.setVm s.vm).setFrames (.invoking m args :: below)).localsInUse = s.localsInUse := by
      rw [State.localsInUse_invoking hF (meth := meth) (c := c) X.method X.code, State.localsInUse_invoking X.frames X.method X.code]
    simp only [State.hasRoom, Bool.and_eq_true, decide_eq_true_eq] at h ⊢
    obtain ⟨⟨⟨⟨h1, h2, h3, h4, h5, h6⟩, h7⟩, h8⟩, h9⟩ := h
    rw [X.frames, List.length_cons] at h2 h3
    have q1 := X.heapSize
    have q2 := X.used
    simp only [hF, hU, List.length_cons, State.stackLimits_setFrames, State.stackBytes_setFrames, hl9, hb9]
    refine ⟨⟨⟨⟨by omega, by omega, by omega, by omega, by omega, h6⟩, ?_⟩, ?_⟩, X.book⟩
    · show T.heap.size + R'.cells ≤ e.platform.maxCells
      omega
    · show T.slotsUsed + R'.slots ≤ e.platform.maxSlots
      omega
  · rw [State.stackLimits_setFrames]; rfl
  · rw [State.stackBytes_setFrames]; rfl
  · refine ⟨?_, Nat.le_refl _, Nat.le_refl _, ?_, ?_, fun a c9 h9 => ⟨c9, h9, rfl, rfl, fun _ _ => rfl⟩⟩
    · obtain ⟨t, ht, -⟩ := State.frames_cons hr
      show T.setVm s.vm = { ((T.setVm s.vm).setFrames (.invoking m args :: below)).setFrames (T.setVm s.vm).frames with heap := T.heap, slotsUsed := T.slotsUsed }
      rw [State.setFrames_setFrames, State.setFrames_self ht]
      rfl
    · show T.slotsUsed = T.slotsUsed + ((T.heap.toList.drop T.heap.size).map (·.slots.size)).sum
      rw [List.drop_eq_nil_of_le (Nat.le_of_eq Array.length_toList)]
      rfl
    · show ((T.heap.toList.drop T.heap.size).map (·.slots.size)).sum ≤ 0
      rw [List.drop_eq_nil_of_le (Nat.le_of_eq Array.length_toList)]
      exact Nat.le_refl _
/-- 'throw new E()': new; dup; invokespecial; athrow -/
theorem vx_throw0 {cc : ByteArray} {pc : Nat} (hexec : p.tables.exec = Jvm.exec) (hb : c.code = cc) (hl : l.stackTraces = false) {own cls : String} {names : List String} {ik ic mc ms : Nat} {A : Nat → Prop}
    (hown : s.vm.findClass own = some m.cls) (hcls : Bundle.fit cls = true) (hnames : ∀ n ∈ names, Bundle.fit n = true)
    (hk : (Cond.classLink own ik cls).before args s = true) (hini : (Cond.initialized cls).before args s = true) (hat : ∀ w ∈ vx_at0 own ic cls names, w.before args s = true)
    (hgood : ∀ w ∈ Cond.classLink own ik cls :: Cond.initialized cls :: vx_at0 own ic cls names, vx_ot w = true)
    (hU : vx_Zq Bundle.tN "UNASSIGNED_STACK" Bundle.steD A s s.heap) (hN : vx_Zq Bundle.tN "SUPPRESSED_SENTINEL" Bundle.listD A s s.heap) (hS : va_S A s.heap H locs) (hsize : ls.size = c.maxLocals)
    (d0 : decode cc pc = .ok (.new ik, 3)) (d3 : decode cc (pc + 3) = .ok (.dup, 1)) (d4 : decode cc (pc + 4) = .ok (.invokespecial ic, 3)) (d7 : decode cc (pc + 7) = .ok (.athrow, 1))
    (hout : ∀ x ∈ c.exceptionTable.toList, covers x (pc + 7) = false)
    (hRframes : names.length + 3 < R.frames) (hRlocals : (rest.map fun v => v.category).sum + (13 * (names.length + 1) + 42) ≤ R.locals) (hRcells : cells + 1 ≤ R.cells) (hRslots : slots + 6 ≤ R.slots) (hlocks : meth.locks = false)
    (hx : ∀ t : State, s.vm.Alike t.vm → H.size ≤ t.heap.size → (∀ q : Nat, q < H.size → t.heap[q]? = H[q]?) → XC cls s t)
    (hf : ∀ z ∈ locs, free z.base) (hc : cells + 1 ≤ mc) (hs : slots + 6 ≤ ms) :
    W p l e R s m args below meth c H locs cells slots (vx_MQ below Qc XC args s mc ms free) (F0 m pc ls rest) := by
  intro T hT X
  have htr : e.platform.stackTraces = false := (show e.platform.stackTraces = l.stackTraces by rw [X.admits.platform]).trans hl
  have Y := vx_rebase X (R' := { frames := R.frames, locals := R.locals, cells := 1, slots := 6 }) (Nat.le_refl _) (Nat.le_refl _) hRcells hRslots
  obtain ⟨s', hA⟩ : ∃ z, z = (T.setVm s.vm).setFrames (.invoking m args :: below) := ⟨_, rfl⟩
  rw [← hA] at Y
  have hvm : s'.vm = s.vm := by rw [hA]; rfl
  have hhp : s'.heap = H := by rw [hA]; exact hT
  have hW0 : s.WarmedH s'.vm := by rw [hvm]; exact State.WarmedH.refl s
  have hat' : ∀ w ∈ vx_at0 own ic cls names, w.before args s' = true := fun w hw => vx_ot_at hW0 hvm.symm (hgood w (List.mem_cons_of_mem _ (List.mem_cons_of_mem _ hw))) (hat w hw)
  have hk' : (Cond.classLink own ik cls).before args s' = true := vx_ot_at hW0 hvm.symm (hgood _ List.mem_cons_self) hk
  have hini' : (Cond.initialized cls).before args s' = true := vx_ot_at hW0 hvm.symm (hgood _ (List.mem_cons_of_mem _ List.mem_cons_self)) hini
  have hU' : vx_Zq Bundle.tN "UNASSIGNED_STACK" Bundle.steD A s' s'.heap := by rw [hhp]; exact vx_Zq.moved hW0.alike (hU.kept hS.2.1)
  have hN' : vx_Zq Bundle.tN "SUPPRESSED_SENTINEL" Bundle.listD A s' s'.heap := by rw [hhp]; exact vx_Zq.moved hW0.alike (hN.kept hS.2.1)
  have h : ∀ w ∈ Bundle.ownAtoms0 own ic cls names, w.before args s' = true := vx_own hat' (vx_isRefq hU'.1) (vx_isRefq hN'.1) hU'.2.word hN'.2.word
  have hown' : s'.vm.findClass own = some m.cls := by rw [hvm]; exact hown
  have hins : (Cond.instantiable cls 6).before args s' = true := h _ (by simp [Bundle.ownAtoms0])
  obtain ⟨vm₁, cX, kX, hfX, hkX, -, -, X₁, st1⟩ := Y.newCold hexec (own := own) (C := cls) (index := ik) (n := 6) hown' hk' hins hini'
    (g := F0 m pc ls rest) rfl (by rw [hb]; exact d0) (Nat.le_refl _) (Nat.le_refl _)
  generalize hT1 : (T.setVm vm₁).pushCell { cls := cX, slots := kX.instanceTypes.map defaultValue, vm := .none } = T1 at X₁ st1
  have hcat : (Value.ref T.heap.size).category = 1 := rfl
  have hcellA : T1.heap[T.heap.size]? = some (freshCell cX kX) := by rw [← hT1]; exact State.heap_pushCell_size _ _
  have d3' : decode c.code (pc + 3) = .ok (.dup, 1) := by rw [hb]; exact d3
  obtain ⟨U, hsteps, hrun, hend, hW, hsame, ce, hce, hO⟩ := X₁.ctorThrow0 hexec htr (own := own) (cls := cls) (names := names) (ic := ic) hown' hcls hnames h (fun x hx => nomatch hx) hfX hkX hcellA (by rw [hhp, hT]; exact Nat.le_refl _)
    (g := { method := m, pc := pc + 4, locals := ls, stack := .ref T.heap.size :: .ref T.heap.size :: rest, locked := none }) rfl hsize rfl rfl (rest := rest) rfl
    (by rw [hb]; exact d4) (by rw [hb]; exact d7) hout hRframes (by simp only [List.map_cons, List.sum_cons, hcat]; omega) hlocks
  obtain ⟨f1, f2⟩ := vx_frame hsame
  rw [hhp] at f1 f2
  have hWs : s.WarmedH U.vm := State.WarmedH.trans hW0 hW
  have hcl : s.vm.findClass cls = some ce.cls := by
    have h9 := hO.cls
    rw [hvm] at h9
    exact h9
  have hall : s.sameButNew ({ U with vm := s.vm } : State) locs mc ms := by
    subst hA
    obtain ⟨e1, e2⟩ := hsame
    rw [State.setFrames_setFrames] at e1
    have h2 : (T.setVm s.vm).sameButNew ({ U with vm := s.vm } : State) [] (0 + 1) (0 + 6) := ⟨e1, e2⟩
    have h3 := X.same.trans h2
    rw [List.append_nil] at h3
    exact h3.mono hc hs
  refine ⟨U, ?_, .threw T.heap.size, hrun, hend, Or.inr ⟨T.heap.size, rfl, cls, ce, locs, hx U hWs.alike f1 (fun q hq => f2 q hq (fun z hz => nomatch hz)), hce, hO.vm, hcl, hWs, hall, hf⟩⟩
  refine st1 _ ?_
  show Steps p.tables e below (T1.setTop { method := m, pc := pc + 3, locals := ls, stack := .ref T.heap.size :: rest, locked := none }) _
  jvm_step X₁.here [X₁.here.top, hexec, d3', Value.category]
  exact hsteps
/-- 'throw new E("text")': new; dup; ldc; invokespecial; athrow -/
theorem vx_throwS {cc : ByteArray} {pc : Nat} (hexec : p.tables.exec = Jvm.exec) (hb : c.code = cc) (hl : l.stackTraces = false) {own cls text : String} {names : List String} {ik is ic mc ms sa : Nat} {A : Nat → Prop}
    (hown : s.vm.findClass own = some m.cls) (hcls : Bundle.fit cls = true) (hnames : ∀ n ∈ names, Bundle.fit n = true)
    (hk : (Cond.classLink own ik cls).before args s = true) (hini : (Cond.initialized cls).before args s = true) (hstr : vk_R own is text sa s) (hat : ∀ w ∈ vx_atS own ic cls names, w.before args s = true)
    (hgood : ∀ w ∈ Cond.classLink own ik cls :: Cond.initialized cls :: vx_atS own ic cls names, vx_ot w = true)
    (hU : vx_Zq Bundle.tN "UNASSIGNED_STACK" Bundle.steD A s s.heap) (hN : vx_Zq Bundle.tN "SUPPRESSED_SENTINEL" Bundle.listD A s s.heap) (hS : va_S A s.heap H locs) (hsize : ls.size = c.maxLocals)
    (d0 : decode cc pc = .ok (.new ik, 3)) (d3 : decode cc (pc + 3) = .ok (.dup, 1)) (d4 : decode cc (pc + 4) = .ok (.ldc is, 2)) (d6 : decode cc (pc + 6) = .ok (.invokespecial ic, 3)) (d9 : decode cc (pc + 9) = .ok (.athrow, 1))
    (hout : ∀ x ∈ c.exceptionTable.toList, covers x (pc + 9) = false)
    (hRframes : names.length + 3 < R.frames) (hRlocals : (rest.map fun v => v.category).sum + (13 * (names.length + 1) + 43) ≤ R.locals) (hRcells : cells + 1 ≤ R.cells) (hRslots : slots + 6 ≤ R.slots) (hlocks : meth.locks = false)
    (hx : ∀ t : State, s.vm.Alike t.vm → H.size ≤ t.heap.size → (∀ q : Nat, q < H.size → t.heap[q]? = H[q]?) → XC cls s t)
    (hf : ∀ z ∈ locs, free z.base) (hc : cells + 1 ≤ mc) (hs : slots + 6 ≤ ms) :
    W p l e R s m args below meth c H locs cells slots (vx_MQ below Qc XC args s mc ms free) (F0 m pc ls rest) := by
  intro T hT X
  have htr : e.platform.stackTraces = false := (show e.platform.stackTraces = l.stackTraces by rw [X.admits.platform]).trans hl
  have Y := vx_rebase X (R' := { frames := R.frames, locals := R.locals, cells := 1, slots := 6 }) (Nat.le_refl _) (Nat.le_refl _) hRcells hRslots
  obtain ⟨s', hA⟩ : ∃ z, z = (T.setVm s.vm).setFrames (.invoking m args :: below) := ⟨_, rfl⟩
  rw [← hA] at Y
  have hvm : s'.vm = s.vm := by rw [hA]; rfl
  have hhp : s'.heap = H := by rw [hA]; exact hT
  have hW0 : s.WarmedH s'.vm := by rw [hvm]; exact State.WarmedH.refl s
  have hat' : ∀ w ∈ vx_atS own ic cls names, w.before args s' = true := fun w hw => vx_ot_at hW0 hvm.symm (hgood w (List.mem_cons_of_mem _ (List.mem_cons_of_mem _ hw))) (hat w hw)
  have hk' : (Cond.classLink own ik cls).before args s' = true := vx_ot_at hW0 hvm.symm (hgood _ List.mem_cons_self) hk
  have hini' : (Cond.initialized cls).before args s' = true := vx_ot_at hW0 hvm.symm (hgood _ (List.mem_cons_of_mem _ List.mem_cons_self)) hini
  have hU' : vx_Zq Bundle.tN "UNASSIGNED_STACK" Bundle.steD A s' s'.heap := by rw [hhp]; exact vx_Zq.moved hW0.alike (hU.kept hS.2.1)
  have hN' : vx_Zq Bundle.tN "SUPPRESSED_SENTINEL" Bundle.listD A s' s'.heap := by rw [hhp]; exact vx_Zq.moved hW0.alike (hN.kept hS.2.1)
  have h : ∀ w ∈ Bundle.ownAtoms own ic cls names, w.before args s' = true := vx_own hat' (vx_isRefq hU'.1) (vx_isRefq hN'.1) hU'.2.word hN'.2.word
  have hown' : s'.vm.findClass own = some m.cls := by rw [hvm]; exact hown
  have hins : (Cond.instantiable cls 6).before args s' = true := h _ (by simp [Bundle.ownAtoms])
  obtain ⟨vm₁, cX, kX, hfX, hkX, -, -, X₁, st1⟩ := Y.newCold hexec (own := own) (C := cls) (index := ik) (n := 6) hown' hk' hins hini'
    (g := F0 m pc ls rest) rfl (by rw [hb]; exact d0) (Nat.le_refl _) (Nat.le_refl _)
  generalize hT1 : (T.setVm vm₁).pushCell { cls := cX, slots := kX.instanceTypes.map defaultValue, vm := .none } = T1 at X₁ st1
  have hcat : (Value.ref T.heap.size).category = 1 := rfl
  have hcellA : T1.heap[T.heap.size]? = some (freshCell cX kX) := by rw [← hT1]; exact State.heap_pushCell_size _ _
  have d3' : decode c.code (pc + 3) = .ok (.dup, 1) := by rw [hb]; exact d3
  have d4' : decode c.code (pc + 4) = .ok (.ldc is, 2) := by rw [hb]; exact d4
  have hstr' : vk_R own is text sa s' := vk_R.warm hW0 hstr
  obtain ⟨U, hsteps, hrun, hend, hW, hsame, ce, hce, hO⟩ := X₁.ctorThrowS hexec htr (own := own) (cls := cls) (names := names) (ic := ic) hown' hcls hnames h (fun x hx => nomatch hx) hfX hkX hcellA (by rw [hhp, hT]; exact Nat.le_refl _) (msg := .ref sa) rfl
    (g := { method := m, pc := pc + 6, locals := ls, stack := .ref sa :: .ref T.heap.size :: .ref T.heap.size :: rest, locked := none }) rfl hsize rfl rfl (rest := rest) rfl
    (by rw [hb]; exact d6) (by rw [hb]; exact d9) hout hRframes (by simp only [List.map_cons, List.sum_cons, hcat]; omega) hlocks
  obtain ⟨f1, f2⟩ := vx_frame hsame
  rw [hhp] at f1 f2
  have hWs : s.WarmedH U.vm := State.WarmedH.trans hW0 hW
  have hcl : s.vm.findClass cls = some ce.cls := by
    have h9 := hO.cls
    rw [hvm] at h9
    exact h9
  have hall : s.sameButNew ({ U with vm := s.vm } : State) locs mc ms := by
    subst hA
    obtain ⟨e1, e2⟩ := hsame
    rw [State.setFrames_setFrames] at e1
    have h2 : (T.setVm s.vm).sameButNew ({ U with vm := s.vm } : State) [] (0 + 1) (0 + 6) := ⟨e1, e2⟩
    have h3 := X.same.trans h2
    rw [List.append_nil] at h3
    exact h3.mono hc hs
  refine ⟨U, ?_, .threw T.heap.size, hrun, hend, Or.inr ⟨T.heap.size, rfl, cls, ce, locs, hx U hWs.alike f1 (fun q hq => f2 q hq (fun z hz => nomatch hz)), hce, hO.vm, hcl, hWs, hall, hf⟩⟩
  refine st1 _ ?_
  show Steps p.tables e below (T1.setTop { method := m, pc := pc + 3, locals := ls, stack := .ref T.heap.size :: rest, locked := none }) _
  jvm_step X₁.here [X₁.here.top, hexec, d3', Value.category]
  exact X₁.ldcString hexec (own := own) (text := text) (index := is) (a := sa) hown' hstr'.1 hstr'.2
    (g := { method := m, pc := pc + 4, locals := ls, stack := .ref T.heap.size :: .ref T.heap.size :: rest, locked := none }) rfl d4' _ hsteps
/-- 'throw new E("text")', the text by a wide index -/
theorem vx_throwSW {cc : ByteArray} {pc : Nat} (hexec : p.tables.exec = Jvm.exec) (hb : c.code = cc) (hl : l.stackTraces = false) {own cls text : String} {names : List String} {ik is ic mc ms sa : Nat} {A : Nat → Prop}
    (hown : s.vm.findClass own = some m.cls) (hcls : Bundle.fit cls = true) (hnames : ∀ n ∈ names, Bundle.fit n = true)
    (hk : (Cond.classLink own ik cls).before args s = true) (hini : (Cond.initialized cls).before args s = true) (hstr : vk_R own is text sa s) (hat : ∀ w ∈ vx_atS own ic cls names, w.before args s = true)
    (hgood : ∀ w ∈ Cond.classLink own ik cls :: Cond.initialized cls :: vx_atS own ic cls names, vx_ot w = true)
    (hU : vx_Zq Bundle.tN "UNASSIGNED_STACK" Bundle.steD A s s.heap) (hN : vx_Zq Bundle.tN "SUPPRESSED_SENTINEL" Bundle.listD A s s.heap) (hS : va_S A s.heap H locs) (hsize : ls.size = c.maxLocals)
    (d0 : decode cc pc = .ok (.new ik, 3)) (d3 : decode cc (pc + 3) = .ok (.dup, 1)) (d4 : decode cc (pc + 4) = .ok (.ldc_w is, 3)) (d7 : decode cc (pc + 7) = .ok (.invokespecial ic, 3)) (d10 : decode cc (pc + 10) = .ok (.athrow, 1))
    (hout : ∀ x ∈ c.exceptionTable.toList, covers x (pc + 10) = false)
    (hRframes : names.length + 3 < R.frames) (hRlocals : (rest.map fun v => v.category).sum + (13 * (names.length + 1) + 43) ≤ R.locals) (hRcells : cells + 1 ≤ R.cells) (hRslots : slots + 6 ≤ R.slots) (hlocks : meth.locks = false)
    (hx : ∀ t : State, s.vm.Alike t.vm → H.size ≤ t.heap.size → (∀ q : Nat, q < H.size → t.heap[q]? = H[q]?) → XC cls s t)
    (hf : ∀ z ∈ locs, free z.base) (hc : cells + 1 ≤ mc) (hs : slots + 6 ≤ ms) :
    W p l e R s m args below meth c H locs cells slots (vx_MQ below Qc XC args s mc ms free) (F0 m pc ls rest) := by
  intro T hT X
  have htr : e.platform.stackTraces = false := (show e.platform.stackTraces = l.stackTraces by rw [X.admits.platform]).trans hl
  have Y := vx_rebase X (R' := { frames := R.frames, locals := R.locals, cells := 1, slots := 6 }) (Nat.le_refl _) (Nat.le_refl _) hRcells hRslots
  obtain ⟨s', hA⟩ : ∃ z, z = (T.setVm s.vm).setFrames (.invoking m args :: below) := ⟨_, rfl⟩
  rw [← hA] at Y
  have hvm : s'.vm = s.vm := by rw [hA]; rfl
  have hhp : s'.heap = H := by rw [hA]; exact hT
  have hW0 : s.WarmedH s'.vm := by rw [hvm]; exact State.WarmedH.refl s
  have hat' : ∀ w ∈ vx_atS own ic cls names, w.before args s' = true := fun w hw => vx_ot_at hW0 hvm.symm (hgood w (List.mem_cons_of_mem _ (List.mem_cons_of_mem _ hw))) (hat w hw)
  have hk' : (Cond.classLink own ik cls).before args s' = true := vx_ot_at hW0 hvm.symm (hgood _ List.mem_cons_self) hk
  have hini' : (Cond.initialized cls).before args s' = true := vx_ot_at hW0 hvm.symm (hgood _ (List.mem_cons_of_mem _ List.mem_cons_self)) hini
  have hU' : vx_Zq Bundle.tN "UNASSIGNED_STACK" Bundle.steD A s' s'.heap := by rw [hhp]; exact vx_Zq.moved hW0.alike (hU.kept hS.2.1)
  have hN' : vx_Zq Bundle.tN "SUPPRESSED_SENTINEL" Bundle.listD A s' s'.heap := by rw [hhp]; exact vx_Zq.moved hW0.alike (hN.kept hS.2.1)
  have h : ∀ w ∈ Bundle.ownAtoms own ic cls names, w.before args s' = true := vx_own hat' (vx_isRefq hU'.1) (vx_isRefq hN'.1) hU'.2.word hN'.2.word
  have hown' : s'.vm.findClass own = some m.cls := by rw [hvm]; exact hown
  have hins : (Cond.instantiable cls 6).before args s' = true := h _ (by simp [Bundle.ownAtoms])
  obtain ⟨vm₁, cX, kX, hfX, hkX, -, -, X₁, st1⟩ := Y.newCold hexec (own := own) (C := cls) (index := ik) (n := 6) hown' hk' hins hini'
    (g := F0 m pc ls rest) rfl (by rw [hb]; exact d0) (Nat.le_refl _) (Nat.le_refl _)
  generalize hT1 : (T.setVm vm₁).pushCell { cls := cX, slots := kX.instanceTypes.map defaultValue, vm := .none } = T1 at X₁ st1
  have hcat : (Value.ref T.heap.size).category = 1 := rfl
  have hcellA : T1.heap[T.heap.size]? = some (freshCell cX kX) := by rw [← hT1]; exact State.heap_pushCell_size _ _
  have d3' : decode c.code (pc + 3) = .ok (.dup, 1) := by rw [hb]; exact d3
  have d4' : decode c.code (pc + 4) = .ok (.ldc_w is, 3) := by rw [hb]; exact d4
  have hstr' : vk_R own is text sa s' := vk_R.warm hW0 hstr
  obtain ⟨U, hsteps, hrun, hend, hW, hsame, ce, hce, hO⟩ := X₁.ctorThrowS hexec htr (own := own) (cls := cls) (names := names) (ic := ic) hown' hcls hnames h (fun x hx => nomatch hx) hfX hkX hcellA (by rw [hhp, hT]; exact Nat.le_refl _) (msg := .ref sa) rfl
    (g := { method := m, pc := pc + 7, locals := ls, stack := .ref sa :: .ref T.heap.size :: .ref T.heap.size :: rest, locked := none }) rfl hsize rfl rfl (rest := rest) rfl
    (by rw [hb]; exact d7) (by rw [hb]; exact d10) hout hRframes (by simp only [List.map_cons, List.sum_cons, hcat]; omega) hlocks
  obtain ⟨f1, f2⟩ := vx_frame hsame
  rw [hhp] at f1 f2
  have hWs : s.WarmedH U.vm := State.WarmedH.trans hW0 hW
  have hcl : s.vm.findClass cls = some ce.cls := by
    have h9 := hO.cls
    rw [hvm] at h9
    exact h9
  have hall : s.sameButNew ({ U with vm := s.vm } : State) locs mc ms := by
    subst hA
    obtain ⟨e1, e2⟩ := hsame
    rw [State.setFrames_setFrames] at e1
    have h2 : (T.setVm s.vm).sameButNew ({ U with vm := s.vm } : State) [] (0 + 1) (0 + 6) := ⟨e1, e2⟩
    have h3 := X.same.trans h2
    rw [List.append_nil] at h3
    exact h3.mono hc hs
  refine ⟨U, ?_, .threw T.heap.size, hrun, hend, Or.inr ⟨T.heap.size, rfl, cls, ce, locs, hx U hWs.alike f1 (fun q hq => f2 q hq (fun z hz => nomatch hz)), hce, hO.vm, hcl, hWs, hall, hf⟩⟩
  refine st1 _ ?_
  show Steps p.tables e below (T1.setTop { method := m, pc := pc + 3, locals := ls, stack := .ref T.heap.size :: rest, locked := none }) _
  jvm_step X₁.here [X₁.here.top, hexec, d3', Value.category]
  exact X₁.ldcStringW hexec (own := own) (text := text) (index := is) (a := sa) hown' hstr'.1 hstr'.2
    (g := { method := m, pc := pc + 4, locals := ls, stack := .ref T.heap.size :: .ref T.heap.size :: rest, locked := none }) rfl d4' _ hsteps
end Ends
section Bodies
variable {l : Launch}
theorem vx_ofW {y : MethodName} {ws ws' : List Cond} {rm : Room} {Pc : Array Value → State → Prop} {Qc : Array Value → State → Outcome → State → Prop} {XC : String → State → State → Prop} {mc ms : Nat} {free : Addr → Prop} {cc : ByteArray} {maxL : Nat} {ret : Option FieldType}
    (hy : plainName y.cls = true) (hw : ws = Cond.code y cc maxL ret :: ws')
    (body : ∀ p e s m args below meth c s₁, BodyLoose p l y (headSpec ws rm) cc maxL ret e s m args below meth c s₁ → c.maxLocals = maxL → (∀ x ∈ c.exceptionTable.toList, False) → Pc args s →
      W p l e (headSpec ws rm).room s m args below meth c s.heap [] 0 0 (vx_MQ below Qc XC args s mc ms free) (entryFrame m args maxL)) : vx_Met l y ws rm Pc Qc XC mc ms free := by
  refine MetFree.of_bodyS (code := cc) (maxLocals := maxL) (ret := ret) hy ?_ ?_
  · intro args s m h hn
    obtain ⟨meth, c, h1, h2, h3, h4, h5, h6, -, -⟩ := Cond.code_spec hn (atoms_spec (ws := ws) h _ (by rw [hw]; exact List.mem_cons_self))
    exact ⟨meth, c, h1, h2, h3, h4, h5, h6⟩
  · intro p e s m args below meth c s₁ B hml hP _
    have hh0 : s₁.heap = s.heap := by rw [B.state]; rfl
    have ht : ∀ x ∈ c.exceptionTable.toList, False := by
      obtain ⟨meth9, c9, h1, h2, -, -, -, -, h7, -⟩ := Cond.code_spec B.named (atoms_spec (ws := ws) B.pre _ (by rw [hw]; exact List.mem_cons_self))
      cases Option.some.inj (h1.symm.trans B.method)
      cases Option.some.inj (h2.symm.trans (Stand.of_body B).code)
      intro x hx
      rw [Array.isEmpty_iff.mp h7] at hx
      cases hx
    obtain ⟨t, a1, o, b1, b2, b3⟩ := body p e s m args below meth c s₁ B hml ht hP s₁ hh0 (Stand.of_body B)
    exact ⟨t, o, a1, b1, b2, b3⟩
/-- the table of a body with handlers -/
theorem vx_table {p : Program} {x y : MethodName} {S : Spec} {cc bytes : ByteArray} {maxL maxL' : Nat} {ret ret' : Option FieldType} {e : Env} {s s₁ : State} {m : MethodId} {args : Array Value} {below : List Frame} {meth : Method} {c : Code} {hh : List (Nat × Nat × Nat × Nat)}
    (B : BodyLoose p l y S cc maxL ret e s m args below meth c s₁) (h : (Cond.codeWith y bytes maxL' ret' hh).before args s = true) : c.exceptionTable.toList = tableOf hh := by
  obtain ⟨m9, meth9, c9, hn9, h1, h2, -, -, h6, -⟩ := Cond.codeWith_spec h
  cases Option.some.inj (hn9.symm.trans B.named)
  cases Option.some.inj (h1.symm.trans B.method)
  cases Option.some.inj (h2.symm.trans (Stand.of_body B).code)
  rw [← h6, table_eq]
end Bodies
end VXA
/-! ===== END ===== -/
/-! ===== BEGIN a static call of a method with an exception table ===== -/
section VXS
variable {p : Program} {l : Launch} {e : Env} {R : Room} {s : State} {m : MethodId} {args : Array Value} {below : List Frame} {meth : Method} {c : Code} {T : State} {H : Heap} {locs : List Loc} {cells slots : Nat}
abbrev vx_CSW (R : Room) (s : State) (args : Array Value) (own : String) (index : Nat) (y : MethodName) (bytes : ByteArray) (maxL : Nat) (ret : Option FieldType) (hh : List (Nat × Nat × Nat × Nat)) (ws : List Cond) (rm : Room) (mc ms n : Nat) : Prop :=
  (rm.cells = mc ∧ rm.slots = ms ∧ rm.frames + 1 ≤ R.frames ∧ 8 + (maxL + 11) + rm.locals ≤ R.locals ∧ (∀ w ∈ ws, ∀ (a' : Array Value) (U : State), s.WarmedH U.vm → w.before a' U = true) ∧ Cond.codeWith y bytes maxL ret hh ∈ ws) ∧
  (Cond.codeWith y bytes maxL ret hh).before args s = true ∧ (Cond.initialized y.cls).before args s = true ∧ (y.cls ≠ "java/lang/invoke/MethodHandle" ∧ y.cls ≠ "java/lang/invoke/VarHandle") ∧
  (∀ sig, parseMethodDescriptor y.desc = some sig → n = sig.parameters.length) ∧ (Cond.methodLink own index y).before args s = true ∧ (Cond.static y).before args s = true
theorem vx_cwSW {own : String} {index maxL mc ms : Nat} {y : MethodName} {bytes : ByteArray} {ret : Option FieldType} {hh : List (Nat × Nat × Nat × Nat)} {Ts ws ws' : List Cond} {rm : Room} (n : Nat) (ht : ∀ w ∈ Ts, w.before args s = true) (hT : GoodIn Ts (va_wsS own index y ws)) (hw : ws = Cond.codeWith y bytes maxL ret hh :: ws') (hrc : rm.cells = mc) (hrs : rm.slots = ms)
    (hd : y.cls ≠ "java/lang/invoke/MethodHandle" ∧ y.cls ≠ "java/lang/invoke/VarHandle" ∧ (parseMethodDescriptor y.desc).map (fun d => d.parameters.length) = some n) (hR : rm.frames + 1 ≤ R.frames ∧ 8 + (maxL + 11) + rm.locals ≤ R.locals) :
    vx_CSW R s args own index y bytes maxL ret hh ws rm mc ms n := by
  have ok : ∀ w ∈ va_wsS own index y ws, w.before args s = true := fun w h => ht w (hT w h).1
  have hG : GoodIn Ts ws := fun w h => hT w (by unfold va_wsS; exact List.mem_append_right _ h)
  have hc : Cond.codeWith y bytes maxL ret hh ∈ ws := by rw [hw]; exact List.mem_cons_self
  refine ⟨⟨hrc, hrs, hR.1, hR.2, pay_in ht hG, hc⟩, ht _ (hG _ hc).1, ok _ (by simp [va_wsS]), ⟨hd.1, hd.2.1⟩, fun sig h => ?_, ok _ (by simp [va_wsS]), ok _ (by simp [va_wsS])⟩
  have h2 := hd.2.2
  rw [h] at h2
  exact (Option.some.inj h2).symm
theorem vx_callSW (X : Stand p l e R s m args below meth c T locs cells slots) (hexec : p.tables.exec = Jvm.exec) {own : String} {index : Nat} {y : MethodName} {bytes : ByteArray} {maxL : Nat} {ret : Option FieldType} {hh : List (Nat × Nat × Nat × Nat)}
    (hown : s.vm.findClass own = some m.cls) (hlink : (Cond.methodLink own index y).before args s = true) (hstat : (Cond.static y).before args s = true) (hinit : (Cond.initialized y.cls).before args s = true)
    (hcode : (Cond.codeWith y bytes maxL ret hh).before args s = true) (hy : y.cls ≠ "java/lang/invoke/MethodHandle" ∧ y.cls ≠ "java/lang/invoke/VarHandle")
    {W9 : Nat} {Pre : Pt → Array Value → Prop} {Post : Pt → Array Value → Option Value → Pt → Prop} (hK : Back l R p e below s args y 3 W9 Pre Post)
    {g : JFrame} (hg : g.method = m) (hsize : g.locals.size = c.maxLocals) {argsL rest : List Value} (hlen : ∀ sig, parseMethodDescriptor y.desc = some sig → argsL.length = sig.parameters.length)
    (hstack : g.stack = argsL.reverse ++ rest) (hW : 2 * g.monitorRoom + (rest.map fun v => v.category).sum ≤ W9) (hdg : decode c.code g.pc = .ok (.invokestatic index, 3))
    (hpre : ∀ vm₁, s.WarmedH vm₁ → Pre ⟨T.setVm vm₁, locs, cells, slots⟩ argsL.toArray) :
    ∃ (v : Option Value) (vm₁ : Vm) (B : Pt), s.WarmedH vm₁ ∧ Stand p l e R s m args below meth c B.U B.locs B.cells B.slots ∧ Post ⟨T.setVm vm₁, locs, cells, slots⟩ argsL.toArray v B ∧
      ∀ target, Steps p.tables e below (B.U.setTop { g with pc := g.pc + 3, stack := v.toList ++ rest }) target → Steps p.tables e below (T.setTop g) target := by
  obtain ⟨mk, methM, cM, hnamed, hmethM, -, -, -, -, -, -, hsigM⟩ := Cond.codeWith_spec hcode
  have hstatic : methM.isStatic = true := Cond.static_spec hnamed hmethM hstat
  obtain ⟨kP, hkP, -⟩ := className_of_methodNamed hnamed
  have hinitP : kP.init = .initialized := Cond.initialized_spec (findClass_of_methodNamed hnamed) hkP hinit
  obtain ⟨vm₁, X₁, hstep₁⟩ := X.invokestatic hexec hown hlink hnamed hmethM hstatic hkP hinitP hy (g := g) hg (argsL := argsL) (rest := rest) (hlen _ hsigM) hstack hdg
  obtain ⟨v, B, X', hpost, hsteps⟩ := hK m meth c ⟨T.setVm vm₁, locs, cells, slots⟩ { g with stack := rest } (.invokestatic index) mk argsL.toArray X₁ hg hsize hdg hW (X₁.named hnamed) (hpre vm₁ X₁.warmed)
  exact ⟨v, vm₁, B, X₁.warmed, X', hpost, fun target h => hstep₁ _ fun acts => by rw [doInvoke_state]; exact hsteps.trans h⟩
theorem vx_runSW {y : MethodName} {bytes cc : ByteArray} {maxL nL mc ms n index : Nat} {ret : Option FieldType} {hh : List (Nat × Nat × Nat × Nat)} {ws : List Cond} {rm : Room} {Pc : Array Value → State → Prop} {Qc : Array Value → State → Outcome → State → Prop} {free : Addr → Prop} {Ts : List Cond} {own : String} {As rest : List Value} {g : JFrame}
    (S : CallFix p m c cc nL s args Ts own) (hM : Met l y ws rm Pc Qc mc ms free) (cw : vx_CSW R s args own index y bytes maxL ret hh ws rm mc ms n) (hp : PreS s H Pc As)
    (hg : g.method = m) (hn : As.length = n) (hsize : g.locals.size = nL) (hstack : g.stack = As.reverse ++ rest) (hW : 2 * g.monitorRoom + (rest.map fun v => v.category).sum ≤ 8) (hdg : decode cc g.pc = .ok (.invokestatic index, 3)) (hf : cells + mc ≤ R.cells ∧ slots + ms ≤ R.slots) :
    va_Run p l e R s m args below meth c H locs cells slots mc ms g rest (Qc As.toArray) (free) := by
  obtain ⟨⟨hrc, hrs, hfr, hlo, hws, hcw⟩, hcode, hini, hy, hlen, hl, hstt⟩ := cw
  have hK : Back l R p e below s args y 3 8 (PreOf R mc ms Pc) (PostOf Qc mc ms free) := va_backW (hh := hh) (bytes := bytes) (maxL := maxL) (ret := ret) hM hp.1 hrc hrs hfr hlo hws hcw (fun a' U hW => word_at hW (Or.inl (by first | rfl | simp [Cond.onTables, Cond.keeps, Cond.steady])) hini)
  obtain ⟨hx, hb, hml, ho, -⟩ := S
  intro T hT X
  obtain ⟨v, vm₁, ⟨U', l2, c2, s2⟩, hW₁, X', ⟨g', mk, t, L, e1, e2, hq, h1, hL, h2, h3⟩, st⟩ := vx_callSW X hx (hh := hh) (bytes := bytes) (maxL := maxL) (ret := ret) ho hl hstt hini hcode hy hK hg (hsize.trans hml.symm) (argsL := As) (rest := rest) (fun sig h => hn.trans (hlen sig h)) hstack hW (by rw [hb]; exact hdg)
    (fun vm₁ hW₁ => ⟨hf.1, hf.2, hp.2 (T.setVm vm₁) hT hW₁⟩)
  dsimp only [Pt.U, Pt.locs, Pt.cells, Pt.slots] at X' e1 e2 h1 h2 h3 st
  subst h1; subst h2; subst h3
  exact ⟨v, (T.setVm vm₁).calling g' mk As.toArray, t, U', L, hT, X', hL, e1, e2, hq, st⟩
/-- not caught here, past rows that name other classes: it goes on to the caller -/
theorem vx_outP {p : Program} {l : Launch} {e : Env} {R : Room} {s : State} {m : MethodId} {args : Array Value} {below : List Frame} {meth : Method} {c : Code} {H : Heap} {locs : List Loc} {cells slots : Nat} {free : Addr → Prop} {ls : Array Slot} {rest : List Value} {Qc : Array Value → State → Outcome → State → Prop} {XC : String → State → State → Prop}
    {pc : Nat} {own E : String} {ce : Cell} {q : Addr} {mc ms : Nat} (hown : s.vm.findClass own = some m.cls) (hlocks : meth.locks = false)
    (hpass : ∀ z ∈ c.exceptionTable.toList, covers z pc = false ∨ (z.catchType ≠ 0 ∧ ∃ nm : String, (Cond.classLink own z.catchType nm).before args s = true ∧ va_Nc E nm s)) (hcell : H[q]? = some ce) (hv : ce.vm = .none) (hcl : s.vm.findClass E = some ce.cls)
    (hx : ∀ t : State, t.heap = H → s.vm.Alike t.vm → XC E s t) (hf : ∀ z ∈ locs, free z.base) (hc : cells ≤ mc) (hs : slots ≤ ms) :
    vx_W p l e R s m args below meth c H locs cells slots (vx_MQ below Qc XC args s mc ms free) (F0 m pc ls rest) q := by
  intro T hT X
  have hpl : e.platform.magicAccessors = ({} : Platform).magicAccessors := by rw [X.admits.platform]
  obtain ⟨vm', hW', X', st⟩ := X.outThrough hlocks q (g := F0 m pc ls rest) rfl rfl rfl (cell := ce) (by rw [hT]; exact hcell) (by rw [hv]; rfl)
    (by obtain ⟨k9, h9, -⟩ := Vm.findClass_spec hcl; exact ⟨k9, h9⟩) (fun z hz => by
      rcases hpass z hz with h | ⟨hz0, nm, hl1, hn1⟩
      · exact Or.inl h
      · obtain ⟨c6, hc6, hcl6⟩ := Cond.classLink_spec hown hl1 e.platform hpl
        obtain ⟨a8, b8, h1, h2, h3⟩ := hn1
        cases Option.some.inj (h1.symm.trans hcl)
        cases Option.some.inj (h2.symm.trans hc6)
        exact Or.inr ⟨hz0, _, hcl6, h3⟩)
  obtain ⟨g₀, hfr⟩ := X'.frames_eq
  have hcell9 : ((T.setVm vm').setFrames (.throwing q :: below)).heap[q]? = some ce := by
    show T.heap[q]? = some ce
    rw [hT]; exact hcell
  have hend : Ended ((T.setVm vm').setFrames (.throwing q :: below)) below (.threw q) := State.frames_setFrames _ (State.cur_lt_of_frames hfr)
  refine ⟨(T.setVm vm').setFrames (.throwing q :: below), ?_, .threw q, X'.here.running, hend, Or.inr ⟨q, rfl, E, ce, locs, hx _ hT (X'.ends _).1.alike, hcell9, hv, hcl, (X'.ends _).1, (X'.ends _).2.mono hc hs, hf⟩⟩
  rw [X.pushThrowing_eq]
  exact st
/-- a thing of a world lies in the heap -/
theorem vx_lt {D : va_G} {cl : List vw_C} {ws : va_W} {H1 : Heap} (h : va_P D cl ws H1) {k : Nat} {q : Nat × va_E} (hk : ws[k]? = some q) : q.1 < H1.size := (h k q hk).lt
end VXS
/-! ===== END ===== -/
/-! ===== BEGIN methods with a table of their own: called by a name, returning or throwing ===== -/
section VXH
/-! vx_backW, vx_callVX, vx_callSX, vx_callVW, vx_runVW, vx_runVX, vx_runSX, vx_ofWH follow the same proofs as their sisters above (Free/Laws.lean, Shelf42/LK1.lean); vx_outP calls Shelf42/NT130.lean (outThrough). -/
section
variable {l : Launch} {R : Room} {p : Program} {e : Env} {below : List Frame} {s : State} {sargs : Array Value} {y : MethodName} {len W9 : Nat}
theorem vx_backW {ws : List Cond} {rm : Room} {Pc : Array Value → State → Prop} {Qc : Array Value → State → Outcome → State → Prop} {XC : String → State → State → Prop} {mc ms : Nat} {free : Addr → Prop} {bytes : ByteArray} {maxL : Nat} {ret : Option FieldType} {hh : List (Nat × Nat × Nat × Nat)}
    (hM : vx_Met l y ws rm Pc Qc XC mc ms free) (hblind : FrameBlind Pc) (hrc : rm.cells = mc) (hrs : rm.slots = ms)
    (hframes : rm.frames + 1 ≤ R.frames) (hlocals : W9 + (maxL + 11) + rm.locals ≤ R.locals)
    (hws : ∀ w ∈ ws, ∀ a' U, s.WarmedH U.vm → w.before a' U = true) (hcode : Cond.codeWith y bytes maxL ret hh ∈ ws) (hinit : ∀ a' U, s.WarmedH U.vm → (Cond.initialized y.cls).before a' U = true) :
    vx_Back l R p e below s sargs y len W9 (PreOf R mc ms Pc) (PostOf Qc mc ms free) (vx_Post XC mc ms free) := by
  intro m meth c A g ig mk a X hg hsize hdg hW hn hp
  have h1 : (headSpec ws rm).pre.before a A.U = true := atoms_intro fun w hw => hws w hw _ _ X.warmed
  have h2 : (Cond.codeWith y bytes maxL ret hh).before a A.U = true := hws _ hcode _ _ X.warmed
  have h3 : (Cond.initialized y.cls).before a A.U = true := hinit _ _ X.warmed
  have h4 : A.cells + (headSpec ws rm).room.cells ≤ R.cells := by rw [show (headSpec ws rm).room.cells = mc from hrc]; exact hp.1
  have h5 : A.slots + (headSpec ws rm).room.slots ≤ R.slots := by rw [show (headSpec ws rm).room.slots = ms from hrs]; exact hp.2.1
  have hPc : Pc a (A.U.calling g mk a) := hblind _ _ _ _ hp.2.2
  obtain ⟨U, Ls, c0, s0⟩ := A
  dsimp only [Pt.U, Pt.locs, Pt.cells, Pt.slots] at h1 h2 h3 h4 h5 X hn hPc ⊢
  obtain ⟨m9, methY, cY, hn9, hmY, hcY, -, hlY, -⟩ := Cond.codeWith_spec h2
  cases Option.some.inj (hn9.symm.trans hn)
  obtain ⟨kY, hkY, -⟩ := className_of_methodNamed hn
  have hinitY : kY.init = .initialized := Cond.initialized_spec (findClass_of_methodNamed hn) hkY h3
  have h : At U g.method c below := by rw [hg]; exact X.here
  have hlocals9 : W9 + (maxL + 11) + (headSpec ws rm).room.locals ≤ R.locals := hlocals
  have happ : (headSpec ws rm).appliesLoose y e.platform (U.calling g mk a) = true :=
    Spec.appliesLoose_calling (g := g) h hdg hn hkY hinitY
      (X.room_calling (g := g) (R' := (headSpec ws rm).room) hsize hmY hcY hframes (by rw [hlY]; omega) h4 h5) h1
  obtain ⟨mid, hmid⟩ := h.above
  have hfr : (U.setTop g).frames = (.java g :: mid) ++ below := by rw [State.frames_setTop' g h.top, hmid]; rfl
  obtain ⟨o, s₂, hsteps, -, hend, hq⟩ := Steps.callFree hM p X.admits X.cas X.clock (acts := []) hfr happ hPc trivial
  have hq' : vx_Q Qc XC mc ms free a (U.calling g mk a) o s₂ := hq
  rw [State.frames_setTop' g h.top] at hend
  obtain ⟨g₀, hg0⟩ := Option.isSome_iff_exists.mp h.top
  obtain ⟨r, hr⟩ := State.topJava?_eq_some.mp hg0
  have hr' : (({ U with heap := s₂.heap, slotsUsed := s₂.slotsUsed } : State).setVm s₂.vm).frames = .java g₀ :: r := hr
  rcases hq' with ⟨hqc, L, hfe, hL⟩ | ⟨q, rfl, E, ce, L, hx, hce, hcv, hcl, hW₂, hsm, hL⟩
  · obtain ⟨⟨v, rfl⟩, hW₂, e2, q2, q3, q4, q5, q6⟩ := id hfe
    have e3 : s₂ = ({ (U.calling g mk a).setFrames s₂.frames with heap := s₂.heap, slotsUsed := s₂.slotsUsed } : State).setVm s₂.vm := by
      have : s₂ = ({ s₂ with vm := (U.calling g mk a).vm } : State).setVm s₂.vm := rfl
      rw [e2] at this
      exact this
    obtain ⟨c₂, i₂, len₂, hc₂, hd₂, hf₂⟩ := hend
    have hW' : U.WarmedH s₂.vm := hW₂
    have hcc : c₂ = c := by
      have h1 : s₂.code? g.method = U.code? g.method := by
        rw [State.code?_eq, State.code?_eq, hW'.alike.method?]
      exact Option.some.inj (hc₂.symm.trans (h1.trans h.code))
    subst hcc
    have hlen : len₂ = len := by rw [hdg] at hd₂; cases hd₂; rfl
    subst hlen
    have hs₂ : s₂ = (({ U with heap := s₂.heap, slotsUsed := s₂.slotsUsed } : State).setVm s₂.vm).setTop { g with pc := g.pc + len₂, stack := v.toList ++ g.stack } := by
      refine e3.trans ?_
      rw [hf₂, State.calling_eq h.top, State.setFrames_setFrames, State.setTop_of_frames _ hr', hr]
      rfl
    have hsame : U.sameButNew ({ U with heap := s₂.heap, slotsUsed := s₂.slotsUsed } : State) L mc ms := by
      refine ⟨?_, q2, q3, q4, q5, q6⟩
      obtain ⟨t, ht, -⟩ := State.frames_cons hr
      show ({ U with heap := s₂.heap, slotsUsed := s₂.slotsUsed } : State) = { U.setFrames U.frames with heap := s₂.heap, slotsUsed := s₂.slotsUsed }
      rw [State.setFrames_self ht]
    subst hg
    refine Or.inl ⟨v, ⟨(({ U with heap := s₂.heap, slotsUsed := s₂.slotsUsed } : State).setVm s₂.vm), Ls ++ L, c0 + mc, s0 + ms⟩,
      ⟨X.admits, X.cas, X.clock, X.frames, X.room, X.hears, X.method, X.code, (X.here.setHeapUsed s₂.heap s₂.slotsUsed).setVm hW'.alike, X.tail, State.WarmedH.trans X.warmed hW', X.limits, X.bytes, X.same.trans (hsame.setVm s.vm)⟩,
      ⟨g, mk, s₂, L, rfl, rfl, hqc, rfl, hL, rfl, rfl⟩, ?_⟩
    show Steps p.tables e below _ ((({ U with heap := s₂.heap, slotsUsed := s₂.slotsUsed } : State).setVm s₂.vm).setTop { g with pc := g.pc + len₂, stack := v.toList ++ g.stack })
    rw [← hs₂]
    exact hsteps
  · obtain ⟨e2, q2, q3, q4, q5, q6⟩ := id hsm
    have e3 : s₂ = ({ (U.calling g mk a).setFrames s₂.frames with heap := s₂.heap, slotsUsed := s₂.slotsUsed } : State).setVm s₂.vm := by
      have : s₂ = ({ s₂ with vm := (U.calling g mk a).vm } : State).setVm s₂.vm := rfl
      rw [e2] at this
      exact this
    have hf₂ : s₂.frames = .throwing q :: .java g :: U.frames.tail := hend
    have hW' : U.WarmedH s₂.vm := hW₂
    have hs₂ : s₂ = ((({ U with heap := s₂.heap, slotsUsed := s₂.slotsUsed } : State).setVm s₂.vm).setTop g).pushFrame (.throwing q) := by
      refine e3.trans ?_
      rw [hf₂, State.calling_eq h.top, State.setFrames_setFrames, State.pushFrame, State.frames_setTop _ hr', State.setTop_of_frames _ hr', State.setFrames_setFrames, hr]
      rfl
    have hsame : U.sameButNew ({ U with heap := s₂.heap, slotsUsed := s₂.slotsUsed } : State) L mc ms := by
      refine ⟨?_, q2, q3, q4, q5, q6⟩
      obtain ⟨t, ht, -⟩ := State.frames_cons hr
      show ({ U with heap := s₂.heap, slotsUsed := s₂.slotsUsed } : State) = { U.setFrames U.frames with heap := s₂.heap, slotsUsed := s₂.slotsUsed }
      rw [State.setFrames_self ht]
    subst hg
    refine Or.inr ⟨q, ⟨(({ U with heap := s₂.heap, slotsUsed := s₂.slotsUsed } : State).setVm s₂.vm), Ls ++ L, c0 + mc, s0 + ms⟩,
      ⟨X.admits, X.cas, X.clock, X.frames, X.room, X.hears, X.method, X.code, (X.here.setHeapUsed s₂.heap s₂.slotsUsed).setVm hW'.alike, X.tail, State.WarmedH.trans X.warmed hW', X.limits, X.bytes, X.same.trans (hsame.setVm s.vm)⟩,
      ⟨g, mk, s₂, L, E, ce, rfl, rfl, hx, hce, hcv, hcl, rfl, hL, rfl, rfl⟩, ?_⟩
    show Steps p.tables e below _ (((({ U with heap := s₂.heap, slotsUsed := s₂.slotsUsed } : State).setVm s₂.vm).setTop g).pushFrame (.throwing q))
    rw [← hs₂]
    exact hsteps
end
variable {p : Program} {l : Launch} {e : Env} {R : Room} {s : State} {m : MethodId} {args : Array Value} {below : List Frame} {meth : Method} {c : Code} {T : State} {H : Heap} {locs : List Loc} {cells slots : Nat}
theorem vx_callVX (X : Stand p l e R s m args below meth c T locs cells slots) (hexec : p.tables.exec = Jvm.exec) {own C : String} {index : Nat} {y : MethodName} {bytes : ByteArray} {maxL : Nat} {ret : Option FieldType} {hh : List (Nat × Nat × Nat × Nat)}
    (hown : s.vm.findClass own = some m.cls) (hlink : (Cond.methodLink own index y).before args s = true) (hinst : (Cond.instanceMethod y).before args s = true) (hsel : (Cond.selects C y y).before args s = true)
    (hcode : (Cond.codeWith y bytes maxL ret hh).before args s = true) (hy : y.cls ≠ "java/lang/invoke/MethodHandle" ∧ y.cls ≠ "java/lang/invoke/VarHandle")
    {W9 : Nat} {Pre : Pt → Array Value → Prop} {Post : Pt → Array Value → Option Value → Pt → Prop} {PostX : Pt → Array Value → Addr → Pt → Prop} (hK : vx_Back l R p e below s args y 3 W9 Pre Post PostX)
    {b : Addr} {cellB : Cell} (hcell : T.heap[b]? = some cellB) (hobj : cellB.vm.isStatics = false) (hcls : s.vm.findClass C = some cellB.cls)
    {g : JFrame} (hg : g.method = m) (hsize : g.locals.size = c.maxLocals) {argsL rest : List Value} (hlen : ∀ sig, parseMethodDescriptor y.desc = some sig → argsL.length = sig.parameters.length)
    (hstack : g.stack = argsL.reverse ++ .ref b :: rest) (hW : 2 * g.monitorRoom + (rest.map fun v => v.category).sum ≤ W9) (hdg : decode c.code g.pc = .ok (.invokevirtual index, 3))
    (hpre : ∀ vm₁, s.WarmedH vm₁ → Pre ⟨T.setVm vm₁, locs, cells, slots⟩ (Value.ref b :: argsL).toArray) :
    (∃ (v : Option Value) (vm₁ : Vm) (B : Pt), s.WarmedH vm₁ ∧ Stand p l e R s m args below meth c B.U B.locs B.cells B.slots ∧ Post ⟨T.setVm vm₁, locs, cells, slots⟩ (Value.ref b :: argsL).toArray v B ∧
      ∀ target, Steps p.tables e below (B.U.setTop { g with pc := g.pc + 3, stack := v.toList ++ rest }) target → Steps p.tables e below (T.setTop g) target) ∨
    (∃ (q : Addr) (vm₁ : Vm) (B : Pt), s.WarmedH vm₁ ∧ Stand p l e R s m args below meth c B.U B.locs B.cells B.slots ∧ PostX ⟨T.setVm vm₁, locs, cells, slots⟩ (Value.ref b :: argsL).toArray q B ∧
      Steps p.tables e below (T.setTop g) ((B.U.setTop { g with stack := rest }).pushFrame (.throwing q))) := by
  obtain ⟨mk, methM, hnamed, hmethM, hstM, habM⟩ := Cond.instanceMethod_spec hinst
  obtain ⟨m8, methM', cM, hn8, hmethM', -, -, -, -, -, -, hsigM⟩ := Cond.codeWith_spec hcode
  cases Option.some.inj (hn8.symm.trans hnamed)
  cases hmethM.symm.trans hmethM'
  obtain ⟨c2, r2, m2, q1, q2, q3, q4, kP, hkP, hkPi⟩ := Cond.selects_spec hsel
  cases hcls.symm.trans q1
  cases (State.methodFound?_of_named hnamed hy).symm.trans q2
  cases hnamed.symm.trans q3
  have hselP : selectMethod e.platform s.vm cellB.cls mk = .method mk := by rw [Launch.admits_selectMethod X.admits]; exact q4
  obtain ⟨vm₁, X₁, hstep₁⟩ := X.invokevirtual hexec hown hlink hnamed hmethM hstM hkP hkPi hy (a := b) (cell := cellB) hcell
    (fun z h => by rw [h] at hobj; cases hobj) hselP hmethM habM hkP hkPi (g := g) hg (argsL := argsL) (rest := rest) (hlen _ hsigM) hstack hdg
  rcases hK m meth c ⟨T.setVm vm₁, locs, cells, slots⟩ { g with stack := rest } (.invokevirtual index) mk (Value.ref b :: argsL).toArray X₁ hg hsize hdg hW (X₁.named hnamed) (hpre vm₁ X₁.warmed) with ⟨v, B, X', hpost, hsteps⟩ | ⟨q, B, X', hpost, hsteps⟩
  · exact Or.inl ⟨v, vm₁, B, X₁.warmed, X', hpost, fun target h => hstep₁ _ fun acts => by rw [doInvoke_state]; exact hsteps.trans h⟩
  · exact Or.inr ⟨q, vm₁, B, X₁.warmed, X', hpost, hstep₁ _ fun acts => by rw [doInvoke_state]; exact hsteps⟩
theorem vx_callSX (X : Stand p l e R s m args below meth c T locs cells slots) (hexec : p.tables.exec = Jvm.exec) {own : String} {index : Nat} {y : MethodName} {bytes : ByteArray} {maxL : Nat} {ret : Option FieldType} {hh : List (Nat × Nat × Nat × Nat)}
    (hown : s.vm.findClass own = some m.cls) (hlink : (Cond.methodLink own index y).before args s = true) (hstat : (Cond.static y).before args s = true) (hinit : (Cond.initialized y.cls).before args s = true)
    (hcode : (Cond.codeWith y bytes maxL ret hh).before args s = true) (hy : y.cls ≠ "java/lang/invoke/MethodHandle" ∧ y.cls ≠ "java/lang/invoke/VarHandle")
    {W9 : Nat} {Pre : Pt → Array Value → Prop} {Post : Pt → Array Value → Option Value → Pt → Prop} {PostX : Pt → Array Value → Addr → Pt → Prop} (hK : vx_Back l R p e below s args y 3 W9 Pre Post PostX)
    {g : JFrame} (hg : g.method = m) (hsize : g.locals.size = c.maxLocals) {argsL rest : List Value} (hlen : ∀ sig, parseMethodDescriptor y.desc = some sig → argsL.length = sig.parameters.length)
    (hstack : g.stack = argsL.reverse ++ rest) (hW : 2 * g.monitorRoom + (rest.map fun v => v.category).sum ≤ W9) (hdg : decode c.code g.pc = .ok (.invokestatic index, 3))
    (hpre : ∀ vm₁, s.WarmedH vm₁ → Pre ⟨T.setVm vm₁, locs, cells, slots⟩ argsL.toArray) :
    (∃ (v : Option Value) (vm₁ : Vm) (B : Pt), s.WarmedH vm₁ ∧ Stand p l e R s m args below meth c B.U B.locs B.cells B.slots ∧ Post ⟨T.setVm vm₁, locs, cells, slots⟩ argsL.toArray v B ∧
      ∀ target, Steps p.tables e below (B.U.setTop { g with pc := g.pc + 3, stack := v.toList ++ rest }) target → Steps p.tables e below (T.setTop g) target) ∨
    (∃ (q : Addr) (vm₁ : Vm) (B : Pt), s.WarmedH vm₁ ∧ Stand p l e R s m args below meth c B.U B.locs B.cells B.slots ∧ PostX ⟨T.setVm vm₁, locs, cells, slots⟩ argsL.toArray q B ∧
      Steps p.tables e below (T.setTop g) ((B.U.setTop { g with stack := rest }).pushFrame (.throwing q))) := by
  obtain ⟨mk, methM, cM, hnamed, hmethM, -, -, -, -, -, -, hsigM⟩ := Cond.codeWith_spec hcode
  have hstatic : methM.isStatic = true := Cond.static_spec hnamed hmethM hstat
  obtain ⟨kP, hkP, -⟩ := className_of_methodNamed hnamed
  have hinitP : kP.init = .initialized := Cond.initialized_spec (findClass_of_methodNamed hnamed) hkP hinit
  obtain ⟨vm₁, X₁, hstep₁⟩ := X.invokestatic hexec hown hlink hnamed hmethM hstatic hkP hinitP hy (g := g) hg (argsL := argsL) (rest := rest) (hlen _ hsigM) hstack hdg
  rcases hK m meth c ⟨T.setVm vm₁, locs, cells, slots⟩ { g with stack := rest } (.invokestatic index) mk argsL.toArray X₁ hg hsize hdg hW (X₁.named hnamed) (hpre vm₁ X₁.warmed) with ⟨v, B, X', hpost, hsteps⟩ | ⟨q, B, X', hpost, hsteps⟩
  · exact Or.inl ⟨v, vm₁, B, X₁.warmed, X', hpost, fun target h => hstep₁ _ fun acts => by rw [doInvoke_state]; exact hsteps.trans h⟩
  · exact Or.inr ⟨q, vm₁, B, X₁.warmed, X', hpost, hstep₁ _ fun acts => by rw [doInvoke_state]; exact hsteps⟩
theorem vx_callVW (X : Stand p l e R s m args below meth c T locs cells slots) (hexec : p.tables.exec = Jvm.exec) {own C : String} {index : Nat} {y : MethodName} {bytes : ByteArray} {maxL : Nat} {ret : Option FieldType} {hh : List (Nat × Nat × Nat × Nat)}
    (hown : s.vm.findClass own = some m.cls) (hlink : (Cond.methodLink own index y).before args s = true) (hinst : (Cond.instanceMethod y).before args s = true) (hsel : (Cond.selects C y y).before args s = true)
    (hcode : (Cond.codeWith y bytes maxL ret hh).before args s = true) (hy : y.cls ≠ "java/lang/invoke/MethodHandle" ∧ y.cls ≠ "java/lang/invoke/VarHandle")
    {W9 : Nat} {Pre : Pt → Array Value → Prop} {Post : Pt → Array Value → Option Value → Pt → Prop} (hK : Back l R p e below s args y 3 W9 Pre Post)
    {b : Addr} {cellB : Cell} (hcell : T.heap[b]? = some cellB) (hobj : cellB.vm.isStatics = false) (hcls : s.vm.findClass C = some cellB.cls)
    {g : JFrame} (hg : g.method = m) (hsize : g.locals.size = c.maxLocals) {argsL rest : List Value} (hlen : ∀ sig, parseMethodDescriptor y.desc = some sig → argsL.length = sig.parameters.length)
    (hstack : g.stack = argsL.reverse ++ .ref b :: rest) (hW : 2 * g.monitorRoom + (rest.map fun v => v.category).sum ≤ W9) (hdg : decode c.code g.pc = .ok (.invokevirtual index, 3))
    (hpre : ∀ vm₁, s.WarmedH vm₁ → Pre ⟨T.setVm vm₁, locs, cells, slots⟩ (Value.ref b :: argsL).toArray) :
    ∃ (v : Option Value) (vm₁ : Vm) (B : Pt), s.WarmedH vm₁ ∧ Stand p l e R s m args below meth c B.U B.locs B.cells B.slots ∧ Post ⟨T.setVm vm₁, locs, cells, slots⟩ (Value.ref b :: argsL).toArray v B ∧
      ∀ target, Steps p.tables e below (B.U.setTop { g with pc := g.pc + 3, stack := v.toList ++ rest }) target → Steps p.tables e below (T.setTop g) target := by
  obtain ⟨mk, methM, hnamed, hmethM, hstM, habM⟩ := Cond.instanceMethod_spec hinst
  obtain ⟨m8, methM', cM, hn8, hmethM', -, -, -, -, -, -, hsigM⟩ := Cond.codeWith_spec hcode
  cases Option.some.inj (hn8.symm.trans hnamed)
  cases hmethM.symm.trans hmethM'
  obtain ⟨c2, r2, m2, q1, q2, q3, q4, kP, hkP, hkPi⟩ := Cond.selects_spec hsel
  cases hcls.symm.trans q1
  cases (State.methodFound?_of_named hnamed hy).symm.trans q2
  cases hnamed.symm.trans q3
  have hselP : selectMethod e.platform s.vm cellB.cls mk = .method mk := by rw [Launch.admits_selectMethod X.admits]; exact q4
  obtain ⟨vm₁, X₁, hstep₁⟩ := X.invokevirtual hexec hown hlink hnamed hmethM hstM hkP hkPi hy (a := b) (cell := cellB) hcell
    (fun z h => by rw [h] at hobj; cases hobj) hselP hmethM habM hkP hkPi (g := g) hg (argsL := argsL) (rest := rest) (hlen _ hsigM) hstack hdg
  obtain ⟨v, B, X', hpost, hsteps⟩ := hK m meth c ⟨T.setVm vm₁, locs, cells, slots⟩ { g with stack := rest } (.invokevirtual index) mk (Value.ref b :: argsL).toArray X₁ hg hsize hdg hW (X₁.named hnamed) (hpre vm₁ X₁.warmed)
  exact ⟨v, vm₁, B, X₁.warmed, X', hpost, fun target h => hstep₁ _ fun acts => by rw [doInvoke_state]; exact hsteps.trans h⟩
abbrev vx_CVW (R : Room) (s : State) (args : Array Value) (own C : String) (index : Nat) (y : MethodName) (bytes : ByteArray) (maxL : Nat) (ret : Option FieldType) (hh : List (Nat × Nat × Nat × Nat)) (ws : List Cond) (rm : Room) (mc ms n : Nat) : Prop :=
  (rm.cells = mc ∧ rm.slots = ms ∧ rm.frames + 1 ≤ R.frames ∧ 8 + (maxL + 11) + rm.locals ≤ R.locals ∧ (∀ w ∈ ws, ∀ (a' : Array Value) (U : State), s.WarmedH U.vm → w.before a' U = true) ∧ Cond.codeWith y bytes maxL ret hh ∈ ws) ∧
  (Cond.codeWith y bytes maxL ret hh).before args s = true ∧ (Cond.initialized y.cls).before args s = true ∧ (y.cls ≠ "java/lang/invoke/MethodHandle" ∧ y.cls ≠ "java/lang/invoke/VarHandle") ∧
  (∀ sig, parseMethodDescriptor y.desc = some sig → n = sig.parameters.length) ∧ (Cond.methodLink own index y).before args s = true ∧ (Cond.instanceMethod y).before args s = true ∧ (Cond.selects C y y).before args s = true
theorem vx_cwVW {own C : String} {index maxL mc ms : Nat} {y : MethodName} {bytes : ByteArray} {ret : Option FieldType} {hh : List (Nat × Nat × Nat × Nat)} {Ts ws ws' : List Cond} {rm : Room} (n : Nat) (ht : ∀ w ∈ Ts, w.before args s = true) (hT : GoodIn Ts (wsV own index C y ws)) (hw : ws = Cond.codeWith y bytes maxL ret hh :: ws') (hrc : rm.cells = mc) (hrs : rm.slots = ms)
    (hd : y.cls = C ∧ y.cls ≠ "java/lang/invoke/MethodHandle" ∧ y.cls ≠ "java/lang/invoke/VarHandle" ∧ (parseMethodDescriptor y.desc).map (fun d => d.parameters.length) = some n) (hR : rm.frames + 1 ≤ R.frames ∧ 8 + (maxL + 11) + rm.locals ≤ R.locals) :
    vx_CVW R s args own C index y bytes maxL ret hh ws rm mc ms n := by
  obtain ⟨hC, hd⟩ := hd
  subst hC
  have ok : ∀ w ∈ wsV own index y.cls y ws, w.before args s = true := fun w h => ht w (hT w h).1
  have hG : GoodIn Ts ws := fun w h => hT w (by unfold wsV; exact List.mem_append_right _ h)
  have hc : Cond.codeWith y bytes maxL ret hh ∈ ws := by rw [hw]; exact List.mem_cons_self
  refine ⟨⟨hrc, hrs, hR.1, hR.2, pay_in ht hG, hc⟩, ht _ (hG _ hc).1, ok _ (by simp [wsV]), ⟨hd.1, hd.2.1⟩, fun sig h => ?_, ok _ (by simp [wsV]), ok _ (by simp [wsV]), ok _ (by simp [wsV])⟩
  have h2 := hd.2.2
  rw [h] at h2
  exact (Option.some.inj h2).symm
theorem vx_runVW {y : MethodName} {bytes cc : ByteArray} {maxL nL mc ms n index : Nat} {ret : Option FieldType} {hh : List (Nat × Nat × Nat × Nat)} {ws : List Cond} {rm : Room} {Pc : Array Value → State → Prop} {Qc : Array Value → State → Outcome → State → Prop} {free : Addr → Prop} {Ts : List Cond} {own C : String} {b : Addr} {As rest : List Value} {g : JFrame}
    (S : CallFix p m c cc nL s args Ts own) (hM : Met l y ws rm Pc Qc mc ms free) (cw : vx_CVW R s args own C index y bytes maxL ret hh ws rm mc ms n) (hp : PreV s H C b Pc As)
    (hg : g.method = m) (hn : As.length = n) (hsize : g.locals.size = nL) (hstack : g.stack = As.reverse ++ .ref b :: rest) (hW : 2 * g.monitorRoom + (rest.map fun v => v.category).sum ≤ 8) (hdg : decode cc g.pc = .ok (.invokevirtual index, 3)) (hf : cells + mc ≤ R.cells ∧ slots + ms ≤ R.slots) :
    va_Run p l e R s m args below meth c H locs cells slots mc ms g rest (Qc (Value.ref b :: As).toArray) free := by
  obtain ⟨⟨hrc, hrs, hfr, hlo, hws, hcw⟩, hcode, hini, hy, hlen, hl, hin, hse⟩ := cw
  have hK : Back l R p e below s args y 3 8 (PreOf R mc ms Pc) (PostOf Qc mc ms free) := va_backW (hh := hh) (bytes := bytes) (maxL := maxL) (ret := ret) hM hp.1 hrc hrs hfr hlo hws hcw (fun a' U hW => word_at hW (Or.inl (by first | rfl | simp [Cond.onTables, Cond.keeps, Cond.steady])) hini)
  obtain ⟨hx, hb, hml, ho, -⟩ := S
  obtain ⟨-, ⟨cellB, hcB, hoB, hclB⟩, hPc⟩ := hp
  intro T hT X
  obtain ⟨v, vm₁, ⟨U', l2, c2, s2⟩, hW₁, X', ⟨g', mk, t, L, e1, e2, hq, h1, hL, h2, h3⟩, st⟩ := vx_callVW X hx (C := C) (hh := hh) (bytes := bytes) (maxL := maxL) (ret := ret) ho hl hin hse hcode hy hK (by rw [hT]; exact hcB) hoB hclB hg (hsize.trans hml.symm) (argsL := As) (rest := rest) (fun sig h => hn.trans (hlen sig h)) hstack hW (by rw [hb]; exact hdg)
    (fun vm₁ hW₁ => ⟨hf.1, hf.2, hPc (T.setVm vm₁) hT hW₁⟩)
  dsimp only [Pt.U, Pt.locs, Pt.cells, Pt.slots] at X' e1 e2 h1 h2 h3 st
  subst h1; subst h2; subst h3
  exact ⟨v, (T.setVm vm₁).calling g' mk (Value.ref b :: As).toArray, t, U', L, hT, X', hL, e1, e2, hq, st⟩
section
variable {y : MethodName} {bytes cc : ByteArray} {maxL nL mc ms n index : Nat} {ret : Option FieldType} {ws : List Cond} {rm : Room} {Pc : Array Value → State → Prop} {Qc : Array Value → State → Outcome → State → Prop} {XC : String → State → State → Prop} {free : Addr → Prop} {Ts : List Cond} {own C : String} {b : Addr} {As rest : List Value} {g : JFrame}
theorem vx_runVX {hh : List (Nat × Nat × Nat × Nat)} (S : CallFix p m c cc nL s args Ts own) (hM : vx_Met l y ws rm Pc Qc XC mc ms free) (cw : vx_CVW R s args own C index y bytes maxL ret hh ws rm mc ms n) (hp : PreV s H C b Pc As)
    (hg : g.method = m) (hn : As.length = n) (hsize : g.locals.size = nL) (hstack : g.stack = As.reverse ++ .ref b :: rest) (hW : 2 * g.monitorRoom + (rest.map fun v => v.category).sum ≤ 8) (hdg : decode cc g.pc = .ok (.invokevirtual index, 3)) (hf : cells + mc ≤ R.cells ∧ slots + ms ≤ R.slots) :
    vx_Run p l e R s m args below meth c H locs cells slots mc ms g rest (Qc (Value.ref b :: As).toArray) XC free := by
  obtain ⟨⟨hrc, hrs, hfr, hlo, hws, hcw⟩, hcode, hini, hy, hlen, hl, hin, hse⟩ := cw
  have hK : vx_Back l R p e below s args y 3 8 (PreOf R mc ms Pc) (PostOf Qc mc ms free) (vx_Post XC mc ms free) := vx_backW (hh := hh) (bytes := bytes) (maxL := maxL) (ret := ret) hM hp.1 hrc hrs hfr hlo hws hcw (fun a' U hW => word_at hW (Or.inl (by first | rfl | simp [Cond.onTables, Cond.keeps, Cond.steady])) hini)
  obtain ⟨hx, hb, hml, ho, -⟩ := S
  obtain ⟨-, ⟨cellB, hcB, hoB, hclB⟩, hPc⟩ := hp
  intro T hT X
  rcases vx_callVX X hx (C := C) (hh := hh) (bytes := bytes) (maxL := maxL) (ret := ret) ho hl hin hse hcode hy hK (by rw [hT]; exact hcB) hoB hclB hg (hsize.trans hml.symm) (argsL := As) (rest := rest) (fun sig h => hn.trans (hlen sig h)) hstack hW (by rw [hb]; exact hdg)
    (fun vm₁ hW₁ => ⟨hf.1, hf.2, hPc (T.setVm vm₁) hT hW₁⟩) with ⟨v, vm₁, ⟨U', l2, c2, s2⟩, hW₁, X', ⟨g', mk, t, L, e1, e2, hq, h1, hL, h2, h3⟩, st⟩ | ⟨q, vm₁, ⟨U', l2, c2, s2⟩, hW₁, X', ⟨g', mk, t, L, E, ce, e1, e2, hq, hce, hcv, hcl, h1, hL, h2, h3⟩, st⟩
  · dsimp only [Pt.U, Pt.locs, Pt.cells, Pt.slots] at X' e1 e2 h1 h2 h3 st
    subst h1; subst h2; subst h3
    exact Or.inl ⟨v, (T.setVm vm₁).calling g' mk (Value.ref b :: As).toArray, t, U', L, hT, X', hL, e1, e2, hq, st⟩
  · dsimp only [Pt.U, Pt.locs, Pt.cells, Pt.slots] at X' e1 e2 h1 h2 h3 st hcl
    subst h1; subst h2; subst h3
    exact Or.inr ⟨q, (T.setVm vm₁).calling g' mk (Value.ref b :: As).toArray, t, U', L, E, ce, hT, X', hL, e1, e2, hq, hce, hcv, vx_cls hW₁ hcl, st⟩
theorem vx_runSX {hh : List (Nat × Nat × Nat × Nat)} (S : CallFix p m c cc nL s args Ts own) (hM : vx_Met l y ws rm Pc Qc XC mc ms free) (cw : vx_CSW R s args own index y bytes maxL ret hh ws rm mc ms n) (hp : PreS s H Pc As)
    (hg : g.method = m) (hn : As.length = n) (hsize : g.locals.size = nL) (hstack : g.stack = As.reverse ++ rest) (hW : 2 * g.monitorRoom + (rest.map fun v => v.category).sum ≤ 8) (hdg : decode cc g.pc = .ok (.invokestatic index, 3)) (hf : cells + mc ≤ R.cells ∧ slots + ms ≤ R.slots) :
    vx_Run p l e R s m args below meth c H locs cells slots mc ms g rest (Qc As.toArray) XC free := by
  obtain ⟨⟨hrc, hrs, hfr, hlo, hws, hcw⟩, hcode, hini, hy, hlen, hl, hstt⟩ := cw
  have hK : vx_Back l R p e below s args y 3 8 (PreOf R mc ms Pc) (PostOf Qc mc ms free) (vx_Post XC mc ms free) := vx_backW (hh := hh) (bytes := bytes) (maxL := maxL) (ret := ret) hM hp.1 hrc hrs hfr hlo hws hcw (fun a' U hW => word_at hW (Or.inl (by first | rfl | simp [Cond.onTables, Cond.keeps, Cond.steady])) hini)
  obtain ⟨hx, hb, hml, ho, -⟩ := S
  intro T hT X
  rcases vx_callSX X hx (hh := hh) (bytes := bytes) (maxL := maxL) (ret := ret) ho hl hstt hini hcode hy hK hg (hsize.trans hml.symm) (argsL := As) (rest := rest) (fun sig h => hn.trans (hlen sig h)) hstack hW (by rw [hb]; exact hdg)
    (fun vm₁ hW₁ => ⟨hf.1, hf.2, hp.2 (T.setVm vm₁) hT hW₁⟩) with ⟨v, vm₁, ⟨U', l2, c2, s2⟩, hW₁, X', ⟨g', mk, t, L, e1, e2, hq, h1, hL, h2, h3⟩, st⟩ | ⟨q, vm₁, ⟨U', l2, c2, s2⟩, hW₁, X', ⟨g', mk, t, L, E, ce, e1, e2, hq, hce, hcv, hcl, h1, hL, h2, h3⟩, st⟩
  · dsimp only [Pt.U, Pt.locs, Pt.cells, Pt.slots] at X' e1 e2 h1 h2 h3 st
    subst h1; subst h2; subst h3
    exact Or.inl ⟨v, (T.setVm vm₁).calling g' mk As.toArray, t, U', L, hT, X', hL, e1, e2, hq, st⟩
  · dsimp only [Pt.U, Pt.locs, Pt.cells, Pt.slots] at X' e1 e2 h1 h2 h3 st hcl
    subst h1; subst h2; subst h3
    exact Or.inr ⟨q, (T.setVm vm₁).calling g' mk As.toArray, t, U', L, E, ce, hT, X', hL, e1, e2, hq, hce, hcv, vx_cls hW₁ hcl, st⟩
end
end VXH
theorem vx_ofWH {l : Launch} {y : MethodName} {ws ws' : List Cond} {rm : Room} {Pc : Array Value → State → Prop} {Qc : Array Value → State → Outcome → State → Prop} {XC : String → State → State → Prop} {mc ms : Nat} {free : Addr → Prop} {cc : ByteArray} {maxL : Nat} {ret : Option FieldType} {hh : List (Nat × Nat × Nat × Nat)}
    (hy : plainName y.cls = true) (hw : ws = Cond.codeWith y cc maxL ret hh :: ws')
    (body : ∀ p e s m args below meth c s₁, BodyLoose p l y (headSpec ws rm) cc maxL ret e s m args below meth c s₁ → c.maxLocals = maxL → Pc args s →
      W p l e (headSpec ws rm).room s m args below meth c s.heap [] 0 0 (vx_MQ below Qc XC args s mc ms free) (entryFrame m args maxL)) : vx_Met l y ws rm Pc Qc XC mc ms free := by
  refine MetFree.of_bodyS (code := cc) (maxLocals := maxL) (ret := ret) hy ?_ ?_
  · intro args s m h hn
    obtain ⟨m9, meth, c, hn9, h1, h2, h3, h4, -, h5, h6, -⟩ := Cond.codeWith_spec (atoms_spec (ws := ws) h _ (by rw [hw]; exact List.mem_cons_self))
    cases hn.symm.trans hn9
    exact ⟨meth, c, h1, h2, h3, h4, h5, h6⟩
  · intro p e s m args below meth c s₁ B hml hP _
    have hh0 : s₁.heap = s.heap := by rw [B.state]; rfl
    obtain ⟨t, a1, o, b1, b2, b3⟩ := body p e s m args below meth c s₁ B hml hP s₁ hh0 (Stand.of_body B)
    exact ⟨t, o, a1, b1, b2, b3⟩
/-! ===== END ===== -/

def RX0 : String := "WeatherInsurance$Audit"
def TX0 : u_T := fun k => match k with
  | 0 => ("WeatherInsurance$Audit", "sorted", "[I", true)
  | _ => ("WeatherInsurance$Audit", "sortedCount", "I", false)
def tyX0 : Nat → FieldType := fun k => match k with
  | 0 => .array .int
  | _ => .int
abbrev wsX00 : List Cond := u_ws RX0 TX0 2
theorem nmX0 : ∀ a, a < 2 → ∀ b, b < 2 → a ≠ b → (TX0 a).2.1 ≠ (TX0 b).2.1 := by decide +kernel
theorem tyX0_ok : ∀ k, k < 2 → parseFieldDescriptor (TX0 k).2.2.1 = some (tyX0 k) := by decide +kernel
abbrev cX0_init : ByteArray := prog_2_method_1_code
def yX0_init : MethodName := ⟨RX0, "<init>", "()V"⟩
abbrev cX0_passes : ByteArray := prog_2_method_2_code
def yX0_passes : MethodName := ⟨RX0, "passes", "(LWeatherInsurance$Office;)Z"⟩
abbrev cX0_moneyAddsUp : ByteArray := prog_2_method_3_code
def yX0_moneyAddsUp : MethodName := ⟨RX0, "moneyAddsUp", "(LWeatherInsurance$Setup;LWeatherInsurance$Ledger;)Z"⟩
abbrev cX0_claimsAreSound : ByteArray := prog_2_method_4_code
def yX0_claimsAreSound : MethodName := ⟨RX0, "claimsAreSound", "(LWeatherInsurance$Ledger;)Z"⟩
abbrev cX0_claimsAreDistinct : ByteArray := prog_2_method_5_code
def yX0_claimsAreDistinct : MethodName := ⟨RX0, "claimsAreDistinct", "(LWeatherInsurance$Office;)Z"⟩
abbrev cX0_paymentsAddUp : ByteArray := prog_2_method_6_code
def yX0_paymentsAddUp : MethodName := ⟨RX0, "paymentsAddUp", "(LWeatherInsurance$Office;)Z"⟩
abbrev cX0_damagesAgree : ByteArray := prog_2_method_7_code
def yX0_damagesAgree : MethodName := ⟨RX0, "damagesAgree", "(LWeatherInsurance$Book;LWeatherInsurance$Ledger;)Z"⟩
abbrev cX0_damageBySorting : ByteArray := prog_2_method_8_code
def yX0_damageBySorting : MethodName := ⟨RX0, "damageBySorting", "(LWeatherInsurance$Book;II)I"⟩
abbrev cX0_insert : ByteArray := prog_2_method_9_code
def yX0_insert : MethodName := ⟨RX0, "insert", "(I)V"⟩
abbrev cX0_countBelow : ByteArray := prog_2_method_10_code
def yX0_countBelow : MethodName := ⟨RX0, "countBelow", "(I)I"⟩
abbrev cX0_sumOfSorted : ByteArray := prog_2_method_11_code
def yX0_sumOfSorted : MethodName := ⟨RX0, "sumOfSorted", "()I"⟩
def RX1 : String := "WeatherInsurance$Book"
def TX1 : u_T := fun k => match k with
  | 0 => ("WeatherInsurance$Book", "winds", "[I", true)
  | 1 => ("WeatherInsurance$Book", "rains", "[I", true)
  | 2 => ("WeatherInsurance$Book", "kites", "[Z", true)
  | 3 => ("WeatherInsurance$Book", "holders", "[I", true)
  | 4 => ("WeatherInsurance$Book", "firsts", "[I", true)
  | 5 => ("WeatherInsurance$Book", "hours", "[I", true)
  | 6 => ("WeatherInsurance$Book", "covers", "[I", true)
  | 7 => ("WeatherInsurance$Book", "leastWinds", "[I", true)
  | 8 => ("WeatherInsurance$Book", "greatestWinds", "[I", true)
  | 9 => ("WeatherInsurance$Book", "rainLimits", "[I", true)
  | 10 => ("WeatherInsurance$Book", "claimPolicies", "[I", true)
  | _ => ("WeatherInsurance$Book", "claimAssessors", "[I", true)
def tyX1 : Nat → FieldType := fun k => match k with
  | 0 => .array .int
  | 1 => .array .int
  | 2 => .array .boolean
  | 3 => .array .int
  | 4 => .array .int
  | 5 => .array .int
  | 6 => .array .int
  | 7 => .array .int
  | 8 => .array .int
  | 9 => .array .int
  | 10 => .array .int
  | _ => .array .int
abbrev wsX10 : List Cond := u_ws RX1 TX1 12
theorem nmX1 : ∀ a, a < 12 → ∀ b, b < 12 → a ≠ b → (TX1 a).2.1 ≠ (TX1 b).2.1 := by decide +kernel
theorem tyX1_ok : ∀ k, k < 12 → parseFieldDescriptor (TX1 k).2.2.1 = some (tyX1 k) := by decide +kernel
abbrev cX1_init : ByteArray := prog_3_method_1_code
def yX1_init : MethodName := ⟨RX1, "<init>", "()V"⟩
abbrev cX1_expiryOf : ByteArray := prog_3_method_3_code
def yX1_expiryOf : MethodName := ⟨RX1, "expiryOf", "(I)I"⟩
abbrev cX1_premiumOf : ByteArray := prog_3_method_4_code
def yX1_premiumOf : MethodName := ⟨RX1, "premiumOf", "(I)I"⟩
abbrev cX1_damageUntil : ByteArray := prog_3_method_5_code
def yX1_damageUntil : MethodName := ⟨RX1, "damageUntil", "(II)I"⟩
abbrev cX1_damageOfHours : ByteArray := prog_3_method_6_code
def yX1_damageOfHours : MethodName := ⟨RX1, "damageOfHours", "(II)I"⟩
abbrev cX1_damageOfRain : ByteArray := prog_3_method_7_code
def yX1_damageOfRain : MethodName := ⟨RX1, "damageOfRain", "(II)I"⟩
def RX2 : String := "WeatherInsurance$History"
def TX2 : u_T := fun k => match k with
  | 0 => ("WeatherInsurance$History", "kept", "[LWeatherInsurance$Ledger;", true)
  | 1 => ("WeatherInsurance$History", "oldest", "I", false)
  | _ => ("WeatherInsurance$History", "count", "I", false)
def tyX2 : Nat → FieldType := fun k => match k with
  | 0 => .array (.object "WeatherInsurance$Ledger")
  | 1 => .int
  | _ => .int
abbrev wsX20 : List Cond := u_ws RX2 TX2 3
theorem nmX2 : ∀ a, a < 3 → ∀ b, b < 3 → a ≠ b → (TX2 a).2.1 ≠ (TX2 b).2.1 := by decide +kernel
theorem tyX2_ok : ∀ k, k < 3 → parseFieldDescriptor (TX2 k).2.2.1 = some (tyX2 k) := by decide +kernel
abbrev cX2_init : ByteArray := prog_4_method_1_code
def yX2_init : MethodName := ⟨RX2, "<init>", "()V"⟩
abbrev cX2_forgetAll : ByteArray := prog_4_method_2_code
def yX2_forgetAll : MethodName := ⟨RX2, "forgetAll", "()V"⟩
abbrev cX2_keep : ByteArray := prog_4_method_4_code
def yX2_keep : MethodName := ⟨RX2, "keep", "(LWeatherInsurance$Ledger;)V"⟩
def RX3 : String := "WeatherInsurance$Ledger"
def TX3 : u_T := fun k => match k with
  | 0 => ("WeatherInsurance$Ledger", "clock", "I", false)
  | 1 => ("WeatherInsurance$Ledger", "reserve", "I", false)
  | 2 => ("WeatherInsurance$Ledger", "balances", "[I", true)
  | 3 => ("WeatherInsurance$Ledger", "policyCount", "I", false)
  | 4 => ("WeatherInsurance$Ledger", "lapsed", "[Z", true)
  | 5 => ("WeatherInsurance$Ledger", "claimCount", "I", false)
  | 6 => ("WeatherInsurance$Ledger", "states", "[I", true)
  | 7 => ("WeatherInsurance$Ledger", "workDone", "[I", true)
  | 8 => ("WeatherInsurance$Ledger", "amounts", "[I", true)
  | 9 => ("WeatherInsurance$Ledger", "grants", "[I", true)
  | 10 => ("WeatherInsurance$Ledger", "grantedCount", "I", false)
  | 11 => ("WeatherInsurance$Ledger", "paidCount", "I", false)
  | 12 => ("WeatherInsurance$Ledger", "premiumSum", "I", false)
  | 13 => ("WeatherInsurance$Ledger", "paidSum", "I", false)
  | _ => ("WeatherInsurance$Ledger", "depositSum", "I", false)
def tyX3 : Nat → FieldType := fun k => match k with
  | 0 => .int
  | 1 => .int
  | 2 => .array .int
  | 3 => .int
  | 4 => .array .boolean
  | 5 => .int
  | 6 => .array .int
  | 7 => .array .int
  | 8 => .array .int
  | 9 => .array .int
  | 10 => .int
  | 11 => .int
  | 12 => .int
  | 13 => .int
  | _ => .int
abbrev wsX30 : List Cond := u_ws RX3 TX3 15
theorem nmX3 : ∀ a, a < 15 → ∀ b, b < 15 → a ≠ b → (TX3 a).2.1 ≠ (TX3 b).2.1 := by decide +kernel
theorem tyX3_ok : ∀ k, k < 15 → parseFieldDescriptor (TX3 k).2.2.1 = some (tyX3 k) := by decide +kernel
abbrev cX3_init : ByteArray := prog_5_method_1_code
def yX3_init : MethodName := ⟨RX3, "<init>", "()V"⟩
abbrev cX3_copyFrom : ByteArray := prog_5_method_2_code
def yX3_copyFrom : MethodName := ⟨RX3, "copyFrom", "(LWeatherInsurance$Ledger;)V"⟩
abbrev cX3_begin : ByteArray := prog_5_method_3_code
def yX3_begin : MethodName := ⟨RX3, "begin", "(LWeatherInsurance$Setup;)V"⟩
abbrev cX3_takeDeposit : ByteArray := prog_5_method_4_code
def yX3_takeDeposit : MethodName := ⟨RX3, "takeDeposit", "(II)I"⟩
abbrev cX3_takePremium : ByteArray := prog_5_method_5_code
def yX3_takePremium : MethodName := ⟨RX3, "takePremium", "(II)V"⟩
abbrev cX3_payAmount : ByteArray := prog_5_method_6_code
def yX3_payAmount : MethodName := ⟨RX3, "payAmount", "(II)V"⟩
abbrev cX3_addPolicy : ByteArray := prog_5_method_7_code
def yX3_addPolicy : MethodName := ⟨RX3, "addPolicy", "()I"⟩
abbrev cX3_addClaim : ByteArray := prog_5_method_8_code
def yX3_addClaim : MethodName := ⟨RX3, "addClaim", "()I"⟩
abbrev cX3_decide : ByteArray := prog_5_method_9_code
def yX3_decide : MethodName := ⟨RX3, "decide", "(II)V"⟩
def RX4 : String := "WeatherInsurance$Office"
def TX4 : u_T := fun k => match k with
  | 0 => ("WeatherInsurance$Office", "setup", "LWeatherInsurance$Setup;", true)
  | 1 => ("WeatherInsurance$Office", "book", "LWeatherInsurance$Book;", true)
  | 2 => ("WeatherInsurance$Office", "ledger", "LWeatherInsurance$Ledger;", true)
  | _ => ("WeatherInsurance$Office", "trial", "LWeatherInsurance$Ledger;", true)
def tyX4 : Nat → FieldType := fun k => match k with
  | 0 => .object "WeatherInsurance$Setup"
  | 1 => .object "WeatherInsurance$Book"
  | 2 => .object "WeatherInsurance$Ledger"
  | _ => .object "WeatherInsurance$Ledger"
abbrev wsX40 : List Cond := u_ws RX4 TX4 4
theorem nmX4 : ∀ a, a < 4 → ∀ b, b < 4 → a ≠ b → (TX4 a).2.1 ≠ (TX4 b).2.1 := by decide +kernel
theorem tyX4_ok : ∀ k, k < 4 → parseFieldDescriptor (TX4 k).2.2.1 = some (tyX4 k) := by decide +kernel
abbrev cX4_init : ByteArray := prog_6_method_1_code
def yX4_init : MethodName := ⟨RX4, "<init>", "()V"⟩
abbrev cX4_openWith : ByteArray := prog_6_method_2_code
def yX4_openWith : MethodName := ⟨RX4, "openWith", "(LWeatherInsurance$Setup;)V"⟩
abbrev cX4_canPass : ByteArray := prog_6_method_3_code
def yX4_canPass : MethodName := ⟨RX4, "canPass", "(I)Z"⟩
abbrev cX4_canSell : ByteArray := prog_6_method_4_code
def yX4_canSell : MethodName := ⟨RX4, "canSell", "(II)Z"⟩
abbrev cX4_sellKite : ByteArray := prog_6_method_5_code
def yX4_sellKite : MethodName := ⟨RX4, "sellKite", "(IIIIII)I"⟩
abbrev cX4_sellPicnic : ByteArray := prog_6_method_6_code
def yX4_sellPicnic : MethodName := ⟨RX4, "sellPicnic", "(IIIII)I"⟩
abbrev cX4_sell : ByteArray := prog_6_method_7_code
def yX4_sell : MethodName := ⟨RX4, "sell", "(IIIII)I"⟩
abbrev cX4_isRunning : ByteArray := prog_6_method_8_code
def yX4_isRunning : MethodName := ⟨RX4, "isRunning", "(LWeatherInsurance$Ledger;I)Z"⟩
abbrev cX4_obstacleFor : ByteArray := prog_6_method_9_code
def yX4_obstacleFor : MethodName := ⟨RX4, "obstacleFor", "(I)I"⟩
abbrev cX4_obstacleByClaims : ByteArray := prog_6_method_10_code
def yX4_obstacleByClaims : MethodName := ⟨RX4, "obstacleByClaims", "(I)I"⟩
abbrev cX4_areAlike : ByteArray := prog_6_method_11_code
def yX4_areAlike : MethodName := ⟨RX4, "areAlike", "(II)Z"⟩
abbrev cX4_openClaim : ByteArray := prog_6_method_12_code
def yX4_openClaim : MethodName := ⟨RX4, "openClaim", "(I)I"⟩
abbrev cX4_leastBusyAssessor : ByteArray := prog_6_method_13_code
def yX4_leastBusyAssessor : MethodName := ⟨RX4, "leastBusyAssessor", "()I"⟩
abbrev cX4_undecidedOf : ByteArray := prog_6_method_14_code
def yX4_undecidedOf : MethodName := ⟨RX4, "undecidedOf", "(I)I"⟩
abbrev cX4_isUndecidedAt : ByteArray := prog_6_method_15_code
def yX4_isUndecidedAt : MethodName := ⟨RX4, "isUndecidedAt", "(II)Z"⟩
abbrev cX4_paidTo : ByteArray := prog_6_method_16_code
def yX4_paidTo : MethodName := ⟨RX4, "paidTo", "(I)I"⟩
abbrev cX4_holderOfClaim : ByteArray := prog_6_method_17_code
def yX4_holderOfClaim : MethodName := ⟨RX4, "holderOfClaim", "(I)I"⟩
abbrev cX4_letHourPass : ByteArray := prog_6_method_18_code
def yX4_letHourPass : MethodName := ⟨RX4, "letHourPass", "(II)I"⟩
abbrev cX4_collectPremiums : ByteArray := prog_6_method_19_code
def yX4_collectPremiums : MethodName := ⟨RX4, "collectPremiums", "(LWeatherInsurance$Ledger;)V"⟩
abbrev cX4_collectPremium : ByteArray := prog_6_method_20_code
def yX4_collectPremium : MethodName := ⟨RX4, "collectPremium", "(LWeatherInsurance$Ledger;I)V"⟩
abbrev cX4_firstUndecidedOf : ByteArray := prog_6_method_21_code
def yX4_firstUndecidedOf : MethodName := ⟨RX4, "firstUndecidedOf", "(I)I"⟩
abbrev cX4_assess : ByteArray := prog_6_method_22_code
def yX4_assess : MethodName := ⟨RX4, "assess", "(II)Z"⟩
abbrev cX4_workFor : ByteArray := prog_6_method_23_code
def yX4_workFor : MethodName := ⟨RX4, "workFor", "(I)I"⟩
abbrev cX4_payGrants : ByteArray := prog_6_method_24_code
def yX4_payGrants : MethodName := ⟨RX4, "payGrants", "()V"⟩
abbrev cX4_workUntilDecision : ByteArray := prog_6_method_25_code
def yX4_workUntilDecision : MethodName := ⟨RX4, "workUntilDecision", "(I)I"⟩
def RX5 : String := "WeatherInsurance$Script"
def TX5 : u_T := fun k => match k with
  | 0 => ("WeatherInsurance$Script", "rows", "[[I", true)
  | _ => ("WeatherInsurance$Script", "count", "I", false)
def tyX5 : Nat → FieldType := fun k => match k with
  | 0 => .array (.array .int)
  | _ => .int
abbrev wsX50 : List Cond := u_ws RX5 TX5 2
theorem nmX5 : ∀ a, a < 2 → ∀ b, b < 2 → a ≠ b → (TX5 a).2.1 ≠ (TX5 b).2.1 := by decide +kernel
theorem tyX5_ok : ∀ k, k < 2 → parseFieldDescriptor (TX5 k).2.2.1 = some (tyX5 k) := by decide +kernel
abbrev cX5_init : ByteArray := prog_7_method_1_code
def yX5_init : MethodName := ⟨RX5, "<init>", "()V"⟩
def RX6 : String := "WeatherInsurance$Setup"
def TX6 : u_T := fun k => match k with
  | 0 => ("WeatherInsurance$Setup", "holderCount", "I", false)
  | 1 => ("WeatherInsurance$Setup", "nameLengths", "[I", true)
  | 2 => ("WeatherInsurance$Setup", "letters", "[B", true)
  | 3 => ("WeatherInsurance$Setup", "balances", "[I", true)
  | 4 => ("WeatherInsurance$Setup", "assessorCount", "I", false)
  | 5 => ("WeatherInsurance$Setup", "strictnesses", "[I", true)
  | _ => ("WeatherInsurance$Setup", "reserve", "I", false)
def tyX6 : Nat → FieldType := fun k => match k with
  | 0 => .int
  | 1 => .array .int
  | 2 => .array .byte
  | 3 => .array .int
  | 4 => .int
  | 5 => .array .int
  | _ => .int
abbrev wsX60 : List Cond := u_ws RX6 TX6 7
theorem nmX6 : ∀ a, a < 7 → ∀ b, b < 7 → a ≠ b → (TX6 a).2.1 ≠ (TX6 b).2.1 := by decide +kernel
theorem tyX6_ok : ∀ k, k < 7 → parseFieldDescriptor (TX6 k).2.2.1 = some (tyX6 k) := by decide +kernel
abbrev cX6_init : ByteArray := prog_8_method_1_code
def yX6_init : MethodName := ⟨RX6, "<init>", "()V"⟩
abbrev cX6_copyFrom : ByteArray := prog_8_method_2_code
def yX6_copyFrom : MethodName := ⟨RX6, "copyFrom", "(LWeatherInsurance$Setup;)V"⟩
abbrev cX6_letterOf : ByteArray := prog_8_method_3_code
def yX6_letterOf : MethodName := ⟨RX6, "letterOf", "(II)I"⟩
abbrev cX6_money : ByteArray := prog_8_method_4_code
def yX6_money : MethodName := ⟨RX6, "money", "()I"⟩
abbrev cX6_holderNamedIn : ByteArray := prog_8_method_5_code
def yX6_holderNamedIn : MethodName := ⟨RX6, "holderNamedIn", "(LWeatherInsurance$TextReader;)I"⟩
abbrev cX6_isNamedIn : ByteArray := prog_8_method_6_code
def yX6_isNamedIn : MethodName := ⟨RX6, "isNamedIn", "(ILWeatherInsurance$TextReader;)Z"⟩
abbrev cX6_readFrom : ByteArray := prog_8_method_7_code
def yX6_readFrom : MethodName := ⟨RX6, "readFrom", "(LWeatherInsurance$TextReader;)Z"⟩
abbrev cX6_readStatement : ByteArray := prog_8_method_8_code
def yX6_readStatement : MethodName := ⟨RX6, "readStatement", "(LWeatherInsurance$TextReader;)Z"⟩
abbrev cX6_readHolder : ByteArray := prog_8_method_9_code
def yX6_readHolder : MethodName := ⟨RX6, "readHolder", "(LWeatherInsurance$TextReader;)Z"⟩
abbrev cX6_takeName : ByteArray := prog_8_method_10_code
def yX6_takeName : MethodName := ⟨RX6, "takeName", "(LWeatherInsurance$TextReader;)V"⟩
abbrev cX6_readAssessor : ByteArray := prog_8_method_11_code
def yX6_readAssessor : MethodName := ⟨RX6, "readAssessor", "(LWeatherInsurance$TextReader;)Z"⟩
abbrev cX6_readReserve : ByteArray := prog_8_method_12_code
def yX6_readReserve : MethodName := ⟨RX6, "readReserve", "(LWeatherInsurance$TextReader;)Z"⟩
def RX7 : String := "WeatherInsurance$TextReader"
def TX7 : u_T := fun k => match k with
  | 0 => ("WeatherInsurance$TextReader", "bytes", "[B", false)
  | 1 => ("WeatherInsurance$TextReader", "length", "I", false)
  | 2 => ("WeatherInsurance$TextReader", "kind", "I", false)
  | 3 => ("WeatherInsurance$TextReader", "start", "I", false)
  | 4 => ("WeatherInsurance$TextReader", "position", "I", false)
  | 5 => ("WeatherInsurance$TextReader", "number", "I", false)
  | 6 => ("WeatherInsurance$TextReader", "errorCode", "I", false)
  | _ => ("WeatherInsurance$TextReader", "errorOffset", "I", false)
def tyX7 : Nat → FieldType := fun k => match k with
  | 0 => .array .byte
  | 1 => .int
  | 2 => .int
  | 3 => .int
  | 4 => .int
  | 5 => .int
  | 6 => .int
  | _ => .int
abbrev wsX70 : List Cond := u_ws RX7 TX7 8
theorem nmX7 : ∀ a, a < 8 → ∀ b, b < 8 → a ≠ b → (TX7 a).2.1 ≠ (TX7 b).2.1 := by decide +kernel
theorem tyX7_ok : ∀ k, k < 8 → parseFieldDescriptor (TX7 k).2.2.1 = some (tyX7 k) := by decide +kernel
abbrev cX7_init : ByteArray := prog_9_method_1_code
def yX7_init : MethodName := ⟨RX7, "<init>", "()V"⟩
abbrev cX7_open : ByteArray := prog_9_method_2_code
def yX7_open : MethodName := ⟨RX7, "open", "([BI)V"⟩
abbrev cX7_next : ByteArray := prog_9_method_3_code
def yX7_next : MethodName := ⟨RX7, "next", "()V"⟩
abbrev cX7_endOfRun : ByteArray := prog_9_method_4_code
def yX7_endOfRun : MethodName := ⟨RX7, "endOfRun", "(II)I"⟩
abbrev cX7_fail : ByteArray := prog_9_method_5_code
def yX7_fail : MethodName := ⟨RX7, "fail", "(I)Z"⟩
abbrev cX7_isAtEnd : ByteArray := prog_9_method_6_code
def yX7_isAtEnd : MethodName := ⟨RX7, "isAtEnd", "()Z"⟩
abbrev cX7_tokenLength : ByteArray := prog_9_method_7_code
def yX7_tokenLength : MethodName := ⟨RX7, "tokenLength", "()I"⟩
abbrev cX7_tokenByte : ByteArray := prog_9_method_8_code
def yX7_tokenByte : MethodName := ⟨RX7, "tokenByte", "(I)B"⟩
abbrev cX7_isWord : ByteArray := prog_9_method_9_code
def yX7_isWord : MethodName := ⟨RX7, "isWord", "(Ljava/lang/String;)Z"⟩
abbrev cX7_readName : ByteArray := prog_9_method_10_code
def yX7_readName : MethodName := ⟨RX7, "readName", "()Z"⟩
abbrev cX7_readSemicolon : ByteArray := prog_9_method_11_code
def yX7_readSemicolon : MethodName := ⟨RX7, "readSemicolon", "()Z"⟩
abbrev cX7_readNumber : ByteArray := prog_9_method_12_code
def yX7_readNumber : MethodName := ⟨RX7, "readNumber", "(II)Z"⟩
def RX8 : String := "WeatherInsurance"
def TX8 : u_T := fun k => match k with
  | 0 => ("WeatherInsurance", "input", "[B", true)
  | 1 => ("WeatherInsurance", "inputLength", "I", false)
  | 2 => ("WeatherInsurance", "output", "[B", true)
  | 3 => ("WeatherInsurance", "outputLength", "I", false)
  | 4 => ("WeatherInsurance", "text", "LWeatherInsurance$TextReader;", true)
  | 5 => ("WeatherInsurance", "draft", "LWeatherInsurance$Setup;", true)
  | 6 => ("WeatherInsurance", "script", "LWeatherInsurance$Script;", true)
  | 7 => ("WeatherInsurance", "audit", "LWeatherInsurance$Audit;", true)
  | 8 => ("WeatherInsurance", "history", "LWeatherInsurance$History;", true)
  | 9 => ("WeatherInsurance", "office", "LWeatherInsurance$Office;", true)
  | 10 => ("WeatherInsurance", "setup", "LWeatherInsurance$Setup;", true)
  | 11 => ("WeatherInsurance", "book", "LWeatherInsurance$Book;", true)
  | 12 => ("WeatherInsurance", "ledger", "LWeatherInsurance$Ledger;", true)
  | 13 => ("WeatherInsurance", "savedBook", "LWeatherInsurance$Book;", true)
  | 14 => ("WeatherInsurance", "savedLedger", "LWeatherInsurance$Ledger;", true)
  | _ => ("WeatherInsurance", "stateIsSaved", "Z", false)
def tyX8 : Nat → FieldType := fun k => match k with
  | 0 => .array .byte
  | 1 => .int
  | 2 => .array .byte
  | 3 => .int
  | 4 => .object "WeatherInsurance$TextReader"
  | 5 => .object "WeatherInsurance$Setup"
  | 6 => .object "WeatherInsurance$Script"
  | 7 => .object "WeatherInsurance$Audit"
  | 8 => .object "WeatherInsurance$History"
  | 9 => .object "WeatherInsurance$Office"
  | 10 => .object "WeatherInsurance$Setup"
  | 11 => .object "WeatherInsurance$Book"
  | 12 => .object "WeatherInsurance$Ledger"
  | 13 => .object "WeatherInsurance$Book"
  | 14 => .object "WeatherInsurance$Ledger"
  | _ => .boolean
abbrev wsX80 : List Cond := u_ws RX8 TX8 16
theorem nmX8 : ∀ a, a < 16 → ∀ b, b < 16 → a ≠ b → (TX8 a).2.1 ≠ (TX8 b).2.1 := by decide +kernel
theorem tyX8_ok : ∀ k, k < 16 → parseFieldDescriptor (TX8 k).2.2.1 = some (tyX8 k) := by decide +kernel
abbrev cX8_init : ByteArray := prog_1_method_1_code
def yX8_init : MethodName := ⟨RX8, "<init>", "()V"⟩
abbrev cX8_appendInput : ByteArray := prog_1_method_2_code
def yX8_appendInput : MethodName := ⟨RX8, "appendInput", "(IIIII)I"⟩
abbrev cX8_appendWord : ByteArray := prog_1_method_3_code
def yX8_appendWord : MethodName := ⟨RX8, "appendWord", "(I)V"⟩
abbrev cX8_truncateInput : ByteArray := prog_1_method_4_code
def yX8_truncateInput : MethodName := ⟨RX8, "truncateInput", "(I)Z"⟩
abbrev cX8_loadSetup : ByteArray := prog_1_method_5_code
def yX8_loadSetup : MethodName := ⟨RX8, "loadSetup", "()I"⟩
abbrev cX8_openInput : ByteArray := prog_1_method_7_code
def yX8_openInput : MethodName := ⟨RX8, "openInput", "()V"⟩
abbrev cX8_clock : ByteArray := prog_1_method_10_code
def yX8_clock : MethodName := ⟨RX8, "clock", "()I"⟩
abbrev cX8_reserve : ByteArray := prog_1_method_11_code
def yX8_reserve : MethodName := ⟨RX8, "reserve", "()I"⟩
abbrev cX8_balance : ByteArray := prog_1_method_14_code
def yX8_balance : MethodName := ⟨RX8, "balance", "(I)I"⟩
abbrev cX8_policyCount : ByteArray := prog_1_method_18_code
def yX8_policyCount : MethodName := ⟨RX8, "policyCount", "()I"⟩
abbrev cX8_premium : ByteArray := prog_1_method_24_code
def yX8_premium : MethodName := ⟨RX8, "premium", "(I)I"⟩
abbrev cX8_isActive : ByteArray := prog_1_method_25_code
def yX8_isActive : MethodName := ⟨RX8, "isActive", "(I)Z"⟩
abbrev cX8_hasLapsed : ByteArray := prog_1_method_26_code
def yX8_hasLapsed : MethodName := ⟨RX8, "hasLapsed", "(I)Z"⟩
abbrev cX8_damage : ByteArray := prog_1_method_27_code
def yX8_damage : MethodName := ⟨RX8, "damage", "(I)I"⟩
abbrev cX8_claimObstacle : ByteArray := prog_1_method_28_code
def yX8_claimObstacle : MethodName := ⟨RX8, "claimObstacle", "(I)I"⟩
abbrev cX8_claimCount : ByteArray := prog_1_method_29_code
def yX8_claimCount : MethodName := ⟨RX8, "claimCount", "()I"⟩
abbrev cX8_policyOf : ByteArray := prog_1_method_30_code
def yX8_policyOf : MethodName := ⟨RX8, "policyOf", "(I)I"⟩
abbrev cX8_assessorOf : ByteArray := prog_1_method_31_code
def yX8_assessorOf : MethodName := ⟨RX8, "assessorOf", "(I)I"⟩
abbrev cX8_isUndecided : ByteArray := prog_1_method_32_code
def yX8_isUndecided : MethodName := ⟨RX8, "isUndecided", "(I)Z"⟩
abbrev cX8_isDenied : ByteArray := prog_1_method_33_code
def yX8_isDenied : MethodName := ⟨RX8, "isDenied", "(I)Z"⟩
abbrev cX8_isPaid : ByteArray := prog_1_method_34_code
def yX8_isPaid : MethodName := ⟨RX8, "isPaid", "(I)Z"⟩
abbrev cX8_grantedAmount : ByteArray := prog_1_method_35_code
def yX8_grantedAmount : MethodName := ⟨RX8, "grantedAmount", "(I)I"⟩
abbrev cX8_workload : ByteArray := prog_1_method_38_code
def yX8_workload : MethodName := ⟨RX8, "workload", "(I)I"⟩
abbrev cX8_nextPayment : ByteArray := prog_1_method_40_code
def yX8_nextPayment : MethodName := ⟨RX8, "nextPayment", "()I"⟩
abbrev cX8_openPayments : ByteArray := prog_1_method_41_code
def yX8_openPayments : MethodName := ⟨RX8, "openPayments", "()I"⟩
abbrev cX8_totalPremiums : ByteArray := prog_1_method_42_code
def yX8_totalPremiums : MethodName := ⟨RX8, "totalPremiums", "()I"⟩
abbrev cX8_totalPaid : ByteArray := prog_1_method_43_code
def yX8_totalPaid : MethodName := ⟨RX8, "totalPaid", "()I"⟩
abbrev cX8_totalDeposits : ByteArray := prog_1_method_44_code
def yX8_totalDeposits : MethodName := ⟨RX8, "totalDeposits", "()I"⟩
abbrev cX8_luckiestHolder : ByteArray := prog_1_method_45_code
def yX8_luckiestHolder : MethodName := ⟨RX8, "luckiestHolder", "()I"⟩
abbrev cX8_premiumForKite : ByteArray := prog_1_method_51_code
def yX8_premiumForKite : MethodName := ⟨RX8, "premiumForKite", "(II)I"⟩
abbrev cX8_premiumForPicnic : ByteArray := prog_1_method_52_code
def yX8_premiumForPicnic : MethodName := ⟨RX8, "premiumForPicnic", "(III)I"⟩
abbrev cX8_hoursUntilDecision : ByteArray := prog_1_method_53_code
def yX8_hoursUntilDecision : MethodName := ⟨RX8, "hoursUntilDecision", "(I)I"⟩
abbrev cX8_isConsistent : ByteArray := prog_1_method_55_code
def yX8_isConsistent : MethodName := ⟨RX8, "isConsistent", "()Z"⟩
abbrev cX8_passHour : ByteArray := prog_1_method_56_code
def yX8_passHour : MethodName := ⟨RX8, "passHour", "(II)I"⟩
abbrev cX8_buyKite : ByteArray := prog_1_method_57_code
def yX8_buyKite : MethodName := ⟨RX8, "buyKite", "(IIIIII)I"⟩
abbrev cX8_buyPicnic : ByteArray := prog_1_method_58_code
def yX8_buyPicnic : MethodName := ⟨RX8, "buyPicnic", "(IIIII)I"⟩
abbrev cX8_fileClaim : ByteArray := prog_1_method_59_code
def yX8_fileClaim : MethodName := ⟨RX8, "fileClaim", "(I)I"⟩
abbrev cX8_deposit : ByteArray := prog_1_method_60_code
def yX8_deposit : MethodName := ⟨RX8, "deposit", "(II)I"⟩
abbrev cX8_requireHolder : ByteArray := prog_1_method_69_code
def yX8_requireHolder : MethodName := ⟨RX8, "requireHolder", "(I)V"⟩
abbrev cX8_requireAssessor : ByteArray := prog_1_method_70_code
def yX8_requireAssessor : MethodName := ⟨RX8, "requireAssessor", "(I)V"⟩
abbrev cX8_requirePolicy : ByteArray := prog_1_method_71_code
def yX8_requirePolicy : MethodName := ⟨RX8, "requirePolicy", "(I)V"⟩
abbrev cX8_requireClaim : ByteArray := prog_1_method_72_code
def yX8_requireClaim : MethodName := ⟨RX8, "requireClaim", "(I)V"⟩
abbrev cX8_requireIndex : ByteArray := prog_1_method_74_code
def yX8_requireIndex : MethodName := ⟨RX8, "requireIndex", "(II)V"⟩
abbrev cX8_requireRange : ByteArray := prog_1_method_75_code
def yX8_requireRange : MethodName := ⟨RX8, "requireRange", "(III)V"⟩
abbrev cX8_requireInsurance : ByteArray := prog_1_method_76_code
def yX8_requireInsurance : MethodName := ⟨RX8, "requireInsurance", "(III)V"⟩
abbrev cX8_requireBuyer : ByteArray := prog_1_method_77_code
def yX8_requireBuyer : MethodName := ⟨RX8, "requireBuyer", "(II)V"⟩
def RX9 : String := "WeatherInsuranceModel"
def TX9 : u_T := fun k => match k with
  | _ => ("", "", "", false)
def tyX9 : Nat → FieldType := fun k => match k with
  | _ => .int
abbrev wsX90 : List Cond := u_ws RX9 TX9 0
theorem nmX9 : ∀ a, a < 0 → ∀ b, b < 0 → a ≠ b → (TX9 a).2.1 ≠ (TX9 b).2.1 := by decide +kernel
theorem tyX9_ok : ∀ k, k < 0 → parseFieldDescriptor (TX9 k).2.2.1 = some (tyX9 k) := by decide +kernel
def RJx145de : String := "java/io/Serializable"
def TJx145de : u_T := fun k => match k with
  | _ => ("", "", "", false)
def tyJx145de : Nat → FieldType := fun k => match k with
  | _ => .int
abbrev wsJx145de0 : List Cond := u_ws RJx145de TJx145de 0
theorem nmJx145de : ∀ a, a < 0 → ∀ b, b < 0 → a ≠ b → (TJx145de a).2.1 ≠ (TJx145de b).2.1 := by decide +kernel
theorem tyJx145de_ok : ∀ k, k < 0 → parseFieldDescriptor (TJx145de k).2.2.1 = some (tyJx145de k) := by decide +kernel
def RJ5 : String := "java/lang/AbstractStringBuilder"
def TJ5 : u_T := fun k => match k with
  | _ => ("", "", "", false)
def tyJ5 : Nat → FieldType := fun k => match k with
  | _ => .int
abbrev wsJ50 : List Cond := u_ws RJ5 TJ5 0
theorem nmJ5 : ∀ a, a < 0 → ∀ b, b < 0 → a ≠ b → (TJ5 a).2.1 ≠ (TJ5 b).2.1 := by decide +kernel
theorem tyJ5_ok : ∀ k, k < 0 → parseFieldDescriptor (TJ5 k).2.2.1 = some (tyJ5 k) := by decide +kernel
abbrev cJ5_init_a7421 : ByteArray := prog_12_method_3_code
def yJ5_init_a7421 : MethodName := ⟨RJ5, "<init>", "(Ljava/lang/String;)V"⟩
abbrev cJ5_length_8abf5 : ByteArray := prog_12_method_6_code
def yJ5_length_8abf5 : MethodName := ⟨RJ5, "length", "()I"⟩
abbrev cJ5_ensureCapacityInternal_d00df : ByteArray := prog_12_method_9_code
def yJ5_ensureCapacityInternal_d00df : MethodName := ⟨RJ5, "ensureCapacityInternal", "(I)V"⟩
abbrev cJ5_newCapacity_0f7a4 : ByteArray := prog_12_method_10_code
def yJ5_newCapacity_0f7a4 : MethodName := ⟨RJ5, "newCapacity", "(I)I"⟩
abbrev cJ5_inflate_da8c8 : ByteArray := prog_12_method_11_code
def yJ5_inflate_da8c8 : MethodName := ⟨RJ5, "inflate", "()V"⟩
abbrev cJ5_append_cf1ce : ByteArray := prog_12_method_22_code
def yJ5_append_cf1ce : MethodName := ⟨RJ5, "append", "(Ljava/lang/String;)Ljava/lang/AbstractStringBuilder;"⟩
abbrev cJ5_appendNull_278bc : ByteArray := prog_12_method_26_code
def yJ5_appendNull_278bc : MethodName := ⟨RJ5, "appendNull", "()Ljava/lang/AbstractStringBuilder;"⟩
abbrev cJ5_append_3fe6f : ByteArray := prog_12_method_31_code
def yJ5_append_3fe6f : MethodName := ⟨RJ5, "append", "(C)Ljava/lang/AbstractStringBuilder;"⟩
abbrev cJ5_append_c97b9 : ByteArray := prog_12_method_32_code
def yJ5_append_c97b9 : MethodName := ⟨RJ5, "append", "(I)Ljava/lang/AbstractStringBuilder;"⟩
abbrev cJ5_getValue_6d5f1 : ByteArray := prog_12_method_64_code
def yJ5_getValue_6d5f1 : MethodName := ⟨RJ5, "getValue", "()[B"⟩
abbrev cJ5_isLatin1_aae02 : ByteArray := prog_12_method_68_code
def yJ5_isLatin1_aae02 : MethodName := ⟨RJ5, "isLatin1", "()Z"⟩
abbrev cJ5_inflateIfNeededFor_a7421 : ByteArray := prog_12_method_71_code
def yJ5_inflateIfNeededFor_a7421 : MethodName := ⟨RJ5, "inflateIfNeededFor", "(Ljava/lang/String;)V"⟩
abbrev cJ5_putStringAt_47b60 : ByteArray := prog_12_method_73_code
def yJ5_putStringAt_47b60 : MethodName := ⟨RJ5, "putStringAt", "(ILjava/lang/String;)V"⟩
def RJx2cfe8 : String := "java/lang/Appendable"
def TJx2cfe8 : u_T := fun k => match k with
  | _ => ("", "", "", false)
def tyJx2cfe8 : Nat → FieldType := fun k => match k with
  | _ => .int
abbrev wsJx2cfe80 : List Cond := u_ws RJx2cfe8 TJx2cfe8 0
theorem nmJx2cfe8 : ∀ a, a < 0 → ∀ b, b < 0 → a ≠ b → (TJx2cfe8 a).2.1 ≠ (TJx2cfe8 b).2.1 := by decide +kernel
theorem tyJx2cfe8_ok : ∀ k, k < 0 → parseFieldDescriptor (TJx2cfe8 k).2.2.1 = some (tyJx2cfe8 k) := by decide +kernel
def RJx9f9b0 : String := "java/lang/CharSequence"
def TJx9f9b0 : u_T := fun k => match k with
  | _ => ("", "", "", false)
def tyJx9f9b0 : Nat → FieldType := fun k => match k with
  | _ => .int
abbrev wsJx9f9b00 : List Cond := u_ws RJx9f9b0 TJx9f9b0 0
theorem nmJx9f9b0 : ∀ a, a < 0 → ∀ b, b < 0 → a ≠ b → (TJx9f9b0 a).2.1 ≠ (TJx9f9b0 b).2.1 := by decide +kernel
theorem tyJx9f9b0_ok : ∀ k, k < 0 → parseFieldDescriptor (TJx9f9b0 k).2.2.1 = some (tyJx9f9b0 k) := by decide +kernel
def RJx8e188 : String := "java/lang/Cloneable"
def TJx8e188 : u_T := fun k => match k with
  | _ => ("", "", "", false)
def tyJx8e188 : Nat → FieldType := fun k => match k with
  | _ => .int
abbrev wsJx8e1880 : List Cond := u_ws RJx8e188 TJx8e188 0
theorem nmJx8e188 : ∀ a, a < 0 → ∀ b, b < 0 → a ≠ b → (TJx8e188 a).2.1 ≠ (TJx8e188 b).2.1 := by decide +kernel
theorem tyJx8e188_ok : ∀ k, k < 0 → parseFieldDescriptor (TJx8e188 k).2.2.1 = some (tyJx8e188 k) := by decide +kernel
def RJxb160c : String := "java/lang/Comparable"
def TJxb160c : u_T := fun k => match k with
  | _ => ("", "", "", false)
def tyJxb160c : Nat → FieldType := fun k => match k with
  | _ => .int
abbrev wsJxb160c0 : List Cond := u_ws RJxb160c TJxb160c 0
theorem nmJxb160c : ∀ a, a < 0 → ∀ b, b < 0 → a ≠ b → (TJxb160c a).2.1 ≠ (TJxb160c b).2.1 := by decide +kernel
theorem tyJxb160c_ok : ∀ k, k < 0 → parseFieldDescriptor (TJxb160c k).2.2.1 = some (tyJxb160c k) := by decide +kernel
def RJ6 : String := "java/lang/Integer"
def TJ6 : u_T := fun k => match k with
  | _ => ("", "", "", false)
def tyJ6 : Nat → FieldType := fun k => match k with
  | _ => .int
abbrev wsJ60 : List Cond := u_ws RJ6 TJ6 0
theorem nmJ6 : ∀ a, a < 0 → ∀ b, b < 0 → a ≠ b → (TJ6 a).2.1 ≠ (TJ6 b).2.1 := by decide +kernel
theorem tyJ6_ok : ∀ k, k < 0 → parseFieldDescriptor (TJ6 k).2.2.1 = some (tyJ6 k) := by decide +kernel
abbrev cJ6_getChars_ba4f3 : ByteArray := prog_18_method_12_code
def yJ6_getChars_ba4f3 : MethodName := ⟨RJ6, "getChars", "(II[B)I"⟩
abbrev cJ6_stringSize_0f7a4 : ByteArray := prog_18_method_13_code
def yJ6_stringSize_0f7a4 : MethodName := ⟨RJ6, "stringSize", "(I)I"⟩
def RJ9 : String := "java/lang/Math"
def TJ9 : u_T := fun k => match k with
  | _ => ("", "", "", false)
def tyJ9 : Nat → FieldType := fun k => match k with
  | _ => .int
abbrev wsJ90 : List Cond := u_ws RJ9 TJ9 0
theorem nmJ9 : ∀ a, a < 0 → ∀ b, b < 0 → a ≠ b → (TJ9 a).2.1 ≠ (TJ9 b).2.1 := by decide +kernel
theorem tyJ9_ok : ∀ k, k < 0 → parseFieldDescriptor (TJ9 k).2.2.1 = some (tyJ9 k) := by decide +kernel
abbrev cJ9_max_7cf53 : ByteArray := prog_19_method_65_code
def yJ9_max_7cf53 : MethodName := ⟨RJ9, "max", "(II)I"⟩
abbrev cJ9_min_7cf53 : ByteArray := prog_19_method_69_code
def yJ9_min_7cf53 : MethodName := ⟨RJ9, "min", "(II)I"⟩
def RJxd2413 : String := "java/lang/Number"
def TJxd2413 : u_T := fun k => match k with
  | _ => ("", "", "", false)
def tyJxd2413 : Nat → FieldType := fun k => match k with
  | _ => .int
abbrev wsJxd24130 : List Cond := u_ws RJxd2413 TJxd2413 0
theorem nmJxd2413 : ∀ a, a < 0 → ∀ b, b < 0 → a ≠ b → (TJxd2413 a).2.1 ≠ (TJxd2413 b).2.1 := by decide +kernel
theorem tyJxd2413_ok : ∀ k, k < 0 → parseFieldDescriptor (TJxd2413 k).2.2.1 = some (tyJxd2413 k) := by decide +kernel
def RJ0 : String := "java/lang/String"
def TJ0 : u_T := fun k => match k with
  | 0 => ("java/lang/String", "value", "[B", true)
  | 1 => ("java/lang/String", "coder", "B", true)
  | 2 => ("java/lang/String", "hash", "I", false)
  | _ => ("java/lang/String", "hashIsZero", "Z", false)
def tyJ0 : Nat → FieldType := fun k => match k with
  | 0 => .array .byte
  | 1 => .byte
  | 2 => .int
  | _ => .boolean
abbrev wsJ00 : List Cond := u_ws RJ0 TJ0 4
theorem nmJ0 : ∀ a, a < 4 → ∀ b, b < 4 → a ≠ b → (TJ0 a).2.1 ≠ (TJ0 b).2.1 := by decide +kernel
theorem tyJ0_ok : ∀ k, k < 4 → parseFieldDescriptor (TJ0 k).2.2.1 = some (tyJ0 k) := by decide +kernel
abbrev cJ0_init_81219 : ByteArray := prog_22_method_53_code
def yJ0_init_81219 : MethodName := ⟨RJ0, "<init>", "(Ljava/lang/StringBuilder;)V"⟩
abbrev cJ0_length_8abf5 : ByteArray := prog_22_method_54_code
def yJ0_length_8abf5 : MethodName := ⟨RJ0, "length", "()I"⟩
abbrev cJ0_charAt_5068e : ByteArray := prog_22_method_56_code
def yJ0_charAt_5068e : MethodName := ⟨RJ0, "charAt", "(I)C"⟩
abbrev cJ0_getBytes_840e7 : ByteArray := prog_22_method_147_code
def yJ0_getBytes_840e7 : MethodName := ⟨RJ0, "getBytes", "([BIB)V"⟩
abbrev cJ0_init_db425 : ByteArray := prog_22_method_150_code
def yJ0_init_db425 : MethodName := ⟨RJ0, "<init>", "(Ljava/lang/AbstractStringBuilder;Ljava/lang/Void;)V"⟩
abbrev cJ0_coder_7d493 : ByteArray := prog_22_method_152_code
def yJ0_coder_7d493 : MethodName := ⟨RJ0, "coder", "()B"⟩
abbrev cJ0_isLatin1_aae02 : ByteArray := prog_22_method_154_code
def yJ0_isLatin1_aae02 : MethodName := ⟨RJ0, "isLatin1", "()Z"⟩
abbrev cJ0_checkIndex_df160 : ByteArray := prog_22_method_155_code
def yJ0_checkIndex_df160 : MethodName := ⟨RJ0, "checkIndex", "(II)V"⟩
abbrev cJ0_checkBoundsOffCount_cabcc : ByteArray := prog_22_method_157_code
def yJ0_checkBoundsOffCount_cabcc : MethodName := ⟨RJ0, "checkBoundsOffCount", "(III)I"⟩
abbrev cJ0_checkBoundsBeginEnd_23922 : ByteArray := prog_22_method_158_code
def yJ0_checkBoundsBeginEnd_23922 : MethodName := ⟨RJ0, "checkBoundsBeginEnd", "(III)V"⟩
def RJ4 : String := "java/lang/StringBuilder"
def TJ4 : u_T := fun k => match k with
  | 0 => ("java/lang/AbstractStringBuilder", "value", "[B", false)
  | 1 => ("java/lang/AbstractStringBuilder", "coder", "B", false)
  | 2 => ("java/lang/AbstractStringBuilder", "maybeLatin1", "Z", false)
  | _ => ("java/lang/AbstractStringBuilder", "count", "I", false)
def tyJ4 : Nat → FieldType := fun k => match k with
  | 0 => .array .byte
  | 1 => .byte
  | 2 => .boolean
  | _ => .int
abbrev wsJ40 : List Cond := u_ws RJ4 TJ4 4
theorem nmJ4 : ∀ a, a < 4 → ∀ b, b < 4 → a ≠ b → (TJ4 a).2.1 ≠ (TJ4 b).2.1 := by decide +kernel
theorem tyJ4_ok : ∀ k, k < 4 → parseFieldDescriptor (TJ4 k).2.2.1 = some (tyJ4 k) := by decide +kernel
abbrev cJ4_init_a7421 : ByteArray := prog_23_method_3_code
def yJ4_init_a7421 : MethodName := ⟨RJ4, "<init>", "(Ljava/lang/String;)V"⟩
abbrev cJ4_append_15ec4 : ByteArray := prog_23_method_7_code
def yJ4_append_15ec4 : MethodName := ⟨RJ4, "append", "(Ljava/lang/String;)Ljava/lang/StringBuilder;"⟩
abbrev cJ4_append_cf468 : ByteArray := prog_23_method_14_code
def yJ4_append_cf468 : MethodName := ⟨RJ4, "append", "(C)Ljava/lang/StringBuilder;"⟩
abbrev cJ4_append_bf812 : ByteArray := prog_23_method_15_code
def yJ4_append_bf812 : MethodName := ⟨RJ4, "append", "(I)Ljava/lang/StringBuilder;"⟩
abbrev cJ4_toString_0e30d : ByteArray := prog_23_method_42_code
def yJ4_toString_0e30d : MethodName := ⟨RJ4, "toString", "()Ljava/lang/String;"⟩
abbrev cJ4_append_cf1ce : ByteArray := prog_23_method_80_code
def yJ4_append_cf1ce : MethodName := ⟨RJ4, "append", "(Ljava/lang/String;)Ljava/lang/AbstractStringBuilder;"⟩
abbrev cJ4_length_8abf5 : ByteArray := prog_23_method_93_code
def yJ4_length_8abf5 : MethodName := ⟨RJ4, "length", "()I"⟩
def RJ1 : String := "java/lang/StringLatin1"
def TJ1 : u_T := fun k => match k with
  | _ => ("", "", "", false)
def tyJ1 : Nat → FieldType := fun k => match k with
  | _ => .int
abbrev wsJ10 : List Cond := u_ws RJ1 TJ1 0
theorem nmJ1 : ∀ a, a < 0 → ∀ b, b < 0 → a ≠ b → (TJ1 a).2.1 ≠ (TJ1 b).2.1 := by decide +kernel
theorem tyJ1_ok : ∀ k, k < 0 → parseFieldDescriptor (TJ1 k).2.2.1 = some (tyJ1 k) := by decide +kernel
abbrev cJ1_charAt_3b067 : ByteArray := prog_24_method_2_code
def yJ1_charAt_3b067 : MethodName := ⟨RJ1, "charAt", "([BI)C"⟩
abbrev cJ1_canEncode_fc78d : ByteArray := prog_24_method_3_code
def yJ1_canEncode_fc78d : MethodName := ⟨RJ1, "canEncode", "(C)Z"⟩
abbrev cJ1_inflate_0e8fd : ByteArray := prog_24_method_50_code
def yJ1_inflate_0e8fd : MethodName := ⟨RJ1, "inflate", "([BI[BII)V"⟩
def RJ2 : String := "java/lang/StringUTF16"
def TJ2 : u_T := fun k => match k with
  | _ => ("", "", "", false)
def tyJ2 : Nat → FieldType := fun k => match k with
  | _ => .int
abbrev wsJ20 : List Cond := u_ws RJ2 TJ2 0
theorem nmJ2 : ∀ a, a < 0 → ∀ b, b < 0 → a ≠ b → (TJ2 a).2.1 ≠ (TJ2 b).2.1 := by decide +kernel
theorem tyJ2_ok : ∀ k, k < 0 → parseFieldDescriptor (TJ2 k).2.2.1 = some (tyJ2 k) := by decide +kernel
abbrev cJ2_newBytesFor_77867 : ByteArray := prog_25_method_2_code
def yJ2_newBytesFor_77867 : MethodName := ⟨RJ2, "newBytesFor", "(I)[B"⟩
abbrev cJ2_newBytesLength_0f7a4 : ByteArray := prog_25_method_3_code
def yJ2_newBytesLength_0f7a4 : MethodName := ⟨RJ2, "newBytesLength", "(I)I"⟩
abbrev cJ2_putChar_b72d1 : ByteArray := prog_25_method_4_code
def yJ2_putChar_b72d1 : MethodName := ⟨RJ2, "putChar", "([BII)V"⟩
abbrev cJ2_getChar_3b067 : ByteArray := prog_25_method_5_code
def yJ2_getChar_3b067 : MethodName := ⟨RJ2, "getChar", "([BI)C"⟩
abbrev cJ2_length_9d52b : ByteArray := prog_25_method_6_code
def yJ2_length_9d52b : MethodName := ⟨RJ2, "length", "([B)I"⟩
abbrev cJ2_coderFromArrayLen_85cad : ByteArray := prog_25_method_15_code
def yJ2_coderFromArrayLen_85cad : MethodName := ⟨RJ2, "coderFromArrayLen", "([BI)B"⟩
abbrev cJ2_compress_39247 : ByteArray := prog_25_method_17_code
def yJ2_compress_39247 : MethodName := ⟨RJ2, "compress", "([BII)[B"⟩
abbrev cJ2_compress_5af95 : ByteArray := prog_25_method_22_code
def yJ2_compress_5af95 : MethodName := ⟨RJ2, "compress", "([BI[BII)I"⟩
abbrev cJ2_putCharSB_b72d1 : ByteArray := prog_25_method_71_code
def yJ2_putCharSB_b72d1 : MethodName := ⟨RJ2, "putCharSB", "([BII)V"⟩
abbrev cJ2_getChars_46870 : ByteArray := prog_25_method_77_code
def yJ2_getChars_46870 : MethodName := ⟨RJ2, "getChars", "(III[B)I"⟩
abbrev cJ2_putCharsAt_cd4e5 : ByteArray := prog_25_method_81_code
def yJ2_putCharsAt_cd4e5 : MethodName := ⟨RJ2, "putCharsAt", "([BICCCC)I"⟩
abbrev cJ2_charAt_3b067 : ByteArray := prog_25_method_83_code
def yJ2_charAt_3b067 : MethodName := ⟨RJ2, "charAt", "([BI)C"⟩
abbrev cJ2_inflate_0e8fd : ByteArray := prog_25_method_86_code
def yJ2_inflate_0e8fd : MethodName := ⟨RJ2, "inflate", "([BI[BII)V"⟩
abbrev cJ2_getChars_ba4f3 : ByteArray := prog_25_method_89_code
def yJ2_getChars_ba4f3 : MethodName := ⟨RJ2, "getChars", "(II[B)I"⟩
abbrev cJ2_checkIndex_2214a : ByteArray := prog_25_method_91_code
def yJ2_checkIndex_2214a : MethodName := ⟨RJ2, "checkIndex", "(I[B)V"⟩
abbrev cJ2_checkBoundsBeginEnd_d044e : ByteArray := prog_25_method_93_code
def yJ2_checkBoundsBeginEnd_d044e : MethodName := ⟨RJ2, "checkBoundsBeginEnd", "(II[B)V"⟩
abbrev cJ2_checkBoundsOffCount_d044e : ByteArray := prog_25_method_94_code
def yJ2_checkBoundsOffCount_d044e : MethodName := ⟨RJ2, "checkBoundsOffCount", "(II[B)V"⟩
def RJ10 : String := "java/lang/System"
def TJ10 : u_T := fun k => match k with
  | _ => ("", "", "", false)
def tyJ10 : Nat → FieldType := fun k => match k with
  | _ => .int
abbrev wsJ100 : List Cond := u_ws RJ10 TJ10 0
theorem nmJ10 : ∀ a, a < 0 → ∀ b, b < 0 → a ≠ b → (TJ10 a).2.1 ≠ (TJ10 b).2.1 := by decide +kernel
theorem tyJ10_ok : ∀ k, k < 0 → parseFieldDescriptor (TJ10 k).2.2.1 = some (tyJ10 k) := by decide +kernel
def RJxfd54e : String := "java/lang/constant/Constable"
def TJxfd54e : u_T := fun k => match k with
  | _ => ("", "", "", false)
def tyJxfd54e : Nat → FieldType := fun k => match k with
  | _ => .int
abbrev wsJxfd54e0 : List Cond := u_ws RJxfd54e TJxfd54e 0
theorem nmJxfd54e : ∀ a, a < 0 → ∀ b, b < 0 → a ≠ b → (TJxfd54e a).2.1 ≠ (TJxfd54e b).2.1 := by decide +kernel
theorem tyJxfd54e_ok : ∀ k, k < 0 → parseFieldDescriptor (TJxfd54e k).2.2.1 = some (tyJxfd54e k) := by decide +kernel
def RJx3cf43 : String := "java/lang/constant/ConstantDesc"
def TJx3cf43 : u_T := fun k => match k with
  | _ => ("", "", "", false)
def tyJx3cf43 : Nat → FieldType := fun k => match k with
  | _ => .int
abbrev wsJx3cf430 : List Cond := u_ws RJx3cf43 TJx3cf43 0
theorem nmJx3cf43 : ∀ a, a < 0 → ∀ b, b < 0 → a ≠ b → (TJx3cf43 a).2.1 ≠ (TJx3cf43 b).2.1 := by decide +kernel
theorem tyJx3cf43_ok : ∀ k, k < 0 → parseFieldDescriptor (TJx3cf43 k).2.2.1 = some (tyJx3cf43 k) := by decide +kernel
def RJ7 : String := "java/util/Arrays"
def TJ7 : u_T := fun k => match k with
  | _ => ("", "", "", false)
def tyJ7 : Nat → FieldType := fun k => match k with
  | _ => .int
abbrev wsJ70 : List Cond := u_ws RJ7 TJ7 0
theorem nmJ7 : ∀ a, a < 0 → ∀ b, b < 0 → a ≠ b → (TJ7 a).2.1 ≠ (TJ7 b).2.1 := by decide +kernel
theorem tyJ7_ok : ∀ k, k < 0 → parseFieldDescriptor (TJ7 k).2.2.1 = some (tyJ7 k) := by decide +kernel
abbrev cJ7_copyOf_9075b : ByteArray := prog_28_method_121_code
def yJ7_copyOf_9075b : MethodName := ⟨RJ7, "copyOf", "([BI)[B"⟩
abbrev cJ7_checkLength_df160 : ByteArray := prog_28_method_131_code
def yJ7_checkLength_df160 : MethodName := ⟨RJ7, "checkLength", "(II)V"⟩
abbrev cJ7_copyOfRange_39247 : ByteArray := prog_28_method_132_code
def yJ7_copyOfRange_39247 : MethodName := ⟨RJ7, "copyOfRange", "([BII)[B"⟩
abbrev cJ7_copyOfRangeByte_39247 : ByteArray := prog_28_method_133_code
def yJ7_copyOfRangeByte_39247 : MethodName := ⟨RJ7, "copyOfRangeByte", "([BII)[B"⟩
def RJ8 : String := "jdk/internal/util/ArraysSupport"
def TJ8 : u_T := fun k => match k with
  | _ => ("", "", "", false)
def tyJ8 : Nat → FieldType := fun k => match k with
  | _ => .int
abbrev wsJ80 : List Cond := u_ws RJ8 TJ8 0
theorem nmJ8 : ∀ a, a < 0 → ∀ b, b < 0 → a ≠ b → (TJ8 a).2.1 ≠ (TJ8 b).2.1 := by decide +kernel
theorem tyJ8_ok : ∀ k, k < 0 → parseFieldDescriptor (TJ8 k).2.2.1 = some (tyJ8 k) := by decide +kernel
abbrev cJ8_newLength_cabcc : ByteArray := prog_29_method_27_code
def yJ8_newLength_cabcc : MethodName := ⟨RJ8, "newLength", "(III)I"⟩
abbrev cJ8_hugeLength_7cf53 : ByteArray := prog_29_method_28_code
def yJ8_hugeLength_7cf53 : MethodName := ⟨RJ8, "hugeLength", "(II)I"⟩
def RJ3 : String := "jdk/internal/util/Preconditions"
def TJ3 : u_T := fun k => match k with
  | _ => ("", "", "", false)
def tyJ3 : Nat → FieldType := fun k => match k with
  | _ => .int
abbrev wsJ30 : List Cond := u_ws RJ3 TJ3 0
theorem nmJ3 : ∀ a, a < 0 → ∀ b, b < 0 → a ≠ b → (TJ3 a).2.1 ≠ (TJ3 b).2.1 := by decide +kernel
theorem tyJ3_ok : ∀ k, k < 0 → parseFieldDescriptor (TJ3 k).2.2.1 = some (tyJ3 k) := by decide +kernel
abbrev cJ3_checkIndex_8e157 : ByteArray := prog_30_method_11_code
def yJ3_checkIndex_8e157 : MethodName := ⟨RJ3, "checkIndex", "(IILjava/util/function/BiFunction;)I"⟩
abbrev cJ3_checkFromToIndex_8c36e : ByteArray := prog_30_method_12_code
def yJ3_checkFromToIndex_8c36e : MethodName := ⟨RJ3, "checkFromToIndex", "(IIILjava/util/function/BiFunction;)I"⟩
abbrev cJ3_checkFromIndexSize_8c36e : ByteArray := prog_30_method_13_code
def yJ3_checkFromIndexSize_8c36e : MethodName := ⟨RJ3, "checkFromIndexSize", "(IIILjava/util/function/BiFunction;)I"⟩
def RL : String := "WeatherInsuranceLaw"
def TL : u_T := fun k => match k with
  | 0 => ("WeatherInsuranceLaw", "balance", "[I", true)
  | 1 => ("WeatherInsuranceLaw", "received", "[I", true)
  | 2 => ("WeatherInsuranceLaw", "strict", "[I", true)
  | 3 => ("WeatherInsuranceLaw", "kind", "[I", true)
  | 4 => ("WeatherInsuranceLaw", "holder", "[I", true)
  | 5 => ("WeatherInsuranceLaw", "first", "[I", true)
  | 6 => ("WeatherInsuranceLaw", "hours", "[I", true)
  | 7 => ("WeatherInsuranceLaw", "cover", "[I", true)
  | 8 => ("WeatherInsuranceLaw", "low", "[I", true)
  | 9 => ("WeatherInsuranceLaw", "high", "[I", true)
  | 10 => ("WeatherInsuranceLaw", "premium", "[I", true)
  | 11 => ("WeatherInsuranceLaw", "hit", "[I", true)
  | 12 => ("WeatherInsuranceLaw", "lapsed", "[Z", true)
  | 13 => ("WeatherInsuranceLaw", "claimed", "[Z", true)
  | 14 => ("WeatherInsuranceLaw", "policy", "[I", true)
  | 15 => ("WeatherInsuranceLaw", "assessor", "[I", true)
  | 16 => ("WeatherInsuranceLaw", "state", "[I", true)
  | 17 => ("WeatherInsuranceLaw", "amount", "[I", true)
  | 18 => ("WeatherInsuranceLaw", "desk", "[[I", true)
  | 19 => ("WeatherInsuranceLaw", "waiting", "[I", true)
  | 20 => ("WeatherInsuranceLaw", "worked", "[I", true)
  | 21 => ("WeatherInsuranceLaw", "payments", "[I", true)
  | 22 => ("WeatherInsuranceLaw", "holders", "I", false)
  | 23 => ("WeatherInsuranceLaw", "assessors", "I", false)
  | 24 => ("WeatherInsuranceLaw", "policies", "I", false)
  | 25 => ("WeatherInsuranceLaw", "claims", "I", false)
  | 26 => ("WeatherInsuranceLaw", "clock", "I", false)
  | 27 => ("WeatherInsuranceLaw", "reserve", "I", false)
  | 28 => ("WeatherInsuranceLaw", "premiums", "I", false)
  | 29 => ("WeatherInsuranceLaw", "paid", "I", false)
  | 30 => ("WeatherInsuranceLaw", "deposits", "I", false)
  | 31 => ("WeatherInsuranceLaw", "open", "I", false)
  | _ => ("WeatherInsuranceLaw", "decided", "I", false)
def tyL : Nat → FieldType := fun k => match k with
  | 0 => .array .int
  | 1 => .array .int
  | 2 => .array .int
  | 3 => .array .int
  | 4 => .array .int
  | 5 => .array .int
  | 6 => .array .int
  | 7 => .array .int
  | 8 => .array .int
  | 9 => .array .int
  | 10 => .array .int
  | 11 => .array .int
  | 12 => .array .boolean
  | 13 => .array .boolean
  | 14 => .array .int
  | 15 => .array .int
  | 16 => .array .int
  | 17 => .array .int
  | 18 => .array (.array .int)
  | 19 => .array .int
  | 20 => .array .int
  | 21 => .array .int
  | 22 => .int
  | 23 => .int
  | 24 => .int
  | 25 => .int
  | 26 => .int
  | 27 => .int
  | 28 => .int
  | 29 => .int
  | 30 => .int
  | 31 => .int
  | _ => .int
abbrev wsL0 : List Cond := u_ws RL TL 33
theorem nmL : ∀ a, a < 33 → ∀ b, b < 33 → a ≠ b → (TL a).2.1 ≠ (TL b).2.1 := by decide +kernel
theorem tyL_ok : ∀ k, k < 33 → parseFieldDescriptor (TL k).2.2.1 = some (tyL k) := by decide +kernel
abbrev cL_init : ByteArray := method_1_code
def yL_init : MethodName := ⟨RL, "<init>", "()V"⟩
abbrev cL_cell : ByteArray := method_2_code
def yL_cell : MethodName := ⟨RL, "cell", "([II)I"⟩
abbrev cL_bits : ByteArray := method_3_code
def yL_bits : MethodName := ⟨RL, "bits", "(III)I"⟩
abbrev cL_told : ByteArray := method_4_code
def yL_told : MethodName := ⟨RL, "told", "(LWeatherInsurance;Ljava/lang/String;)V"⟩
abbrev cL_isActive : ByteArray := method_5_code
def yL_isActive : MethodName := ⟨RL, "isActive", "(I)Z"⟩
abbrev cL_damage : ByteArray := method_6_code
def yL_damage : MethodName := ⟨RL, "damage", "(I)I"⟩
abbrev cL_passes : ByteArray := method_7_code
def yL_passes : MethodName := ⟨RL, "passes", "(II)I"⟩
abbrev cL_obstacle : ByteArray := method_8_code
def yL_obstacle : MethodName := ⟨RL, "obstacle", "(I)I"⟩
abbrev cL_files : ByteArray := method_9_code
def yL_files : MethodName := ⟨RL, "files", "(I)I"⟩
abbrev cL_isRefused : ByteArray := method_10_code
def yL_isRefused : MethodName := ⟨RL, "isRefused", "(LWeatherInsurance;IIIIII)Z"⟩
abbrev cL_acts : ByteArray := method_11_code
def yL_acts : MethodName := ⟨RL, "acts", "(LWeatherInsurance;II)Z"⟩
abbrev cL_isLike : ByteArray := method_12_code
def yL_isLike : MethodName := ⟨RL, "isLike", "(LWeatherInsurance;)Z"⟩
abbrev cL_law : ByteArray := code
def yL_law : MethodName := ⟨RL, "law", "([I)Z"⟩
abbrev vwCl : List vw_C := [(RX0, TX0, 2), (RX1, TX1, 12), (RX2, TX2, 3), (RX3, TX3, 15), (RX4, TX4, 4), (RX5, TX5, 2), (RX6, TX6, 7), (RX7, TX7, 8), (RX8, TX8, 16), (RL, TL, 33)]
end
section
/-! An abstract machine over a heap of numbered cells (addresses 0, 1, 2 ..): one instruction of it is one instruction of the machine. -/
/-- an abstract cell: an array (its elements' type, its contents) or an object (its class's place in vwCl, its fields); a reference in it is a number of a cell -/
abbrev a_C : Type := (FieldType × vp_A) ⊕ (Nat × List Value)
abbrev a_H : Type := List a_C
/-- numbers from here on stand for what is no cell of the heap: the script, then the string constants -/
def a_big : Nat := 1000000
def a_v (ad : Nat → Nat) (v : Value) : Value := match v with
  | .ref i => .ref (ad i)
  | w => w
def a_k (ad : Nat → Nat) (x : (Nat → Int32) ⊕ (Nat → Int64) ⊕ (Nat → UInt32) ⊕ (Nat → UInt64) ⊕ (Nat → Option Nat)) : (Nat → Int32) ⊕ (Nat → Int64) ⊕ (Nat → UInt32) ⊕ (Nat → UInt64) ⊕ (Nat → Option Nat) := match x with
  | .inr (.inr (.inr (.inr f))) => .inr (.inr (.inr (.inr (fun i => (f i).map ad))))
  | y => y
def a_e (ad : Nat → Nat) (cA : ClassId) (c : a_C) : va_E := match c with
  | .inl x => .inl (cA, x.2.1, a_k ad x.2.2)
  | .inr o => .inr (o.1, o.2.map (a_v ad))
def a_ws (ad : Nat → Nat) (ca : Nat → ClassId) (h : a_H) : va_W := h.mapIdx (fun i c => (ad i, a_e ad (ca i) c))
theorem a_ws_len (ad : Nat → Nat) (ca : Nat → ClassId) (h : a_H) : (a_ws ad ca h).length = h.length := by simp [a_ws]
theorem a_ws_get {ad : Nat → Nat} {ca : Nat → ClassId} {h : a_H} {i : Nat} {c : a_C} (e : h[i]? = some c) : (a_ws ad ca h)[i]? = some (ad i, a_e ad (ca i) c) := by simp [a_ws, e]
theorem a_ws_inv {ad : Nat → Nat} {ca : Nat → ClassId} {h : a_H} {i : Nat} {q : Nat × va_E} (e : (a_ws ad ca h)[i]? = some q) : ∃ c, h[i]? = some c ∧ q = (ad i, a_e ad (ca i) c) := by
  simp only [a_ws, List.getElem?_mapIdx, Option.map_eq_some_iff] at e
  obtain ⟨c, h1, h2⟩ := e
  exact ⟨c, h1, h2.symm⟩
theorem a_ws_set (ad : Nat → Nat) (ca : Nat → ClassId) (h : a_H) (i : Nat) (c : a_C) : (a_ws ad ca h).set i (ad i, a_e ad (ca i) c) = a_ws ad ca (h.set i c) := by
  apply List.ext_getElem?
  intro j
  simp only [a_ws, List.getElem?_set, List.getElem?_mapIdx, List.length_mapIdx]
  by_cases hij : i = j
  · subst hij
    by_cases hl : i < h.length
    · simp [hl]
    · simp [hl]
  · simp [hij]
/-- a number that names something: a cell, or what is no cell -/
def a_okr (n i : Nat) : Prop := i < n ∨ a_big ≤ i
def a_okv (n : Nat) (v : Value) : Prop := ∀ i, v = .ref i → a_okr n i
def a_okc (n : Nat) (c : a_C) : Prop := match c with
  | .inl x => ∀ f, x.2.2 = .inr (.inr (.inr (.inr f))) → ∀ i j, f i = some j → a_okr n j
  | .inr o => ∀ v ∈ o.2, a_okv n v
def a_okh (h : a_H) : Prop := ∀ (i : Nat) (c : a_C), h[i]? = some c → a_okc h.length c
theorem a_okv_mono {n m : Nat} (hnm : n ≤ m) {v : Value} (h : a_okv n v) : a_okv m v := fun i e => (h i e).imp (fun q => Nat.lt_of_lt_of_le q hnm) id
theorem a_okc_mono {n m : Nat} (hnm : n ≤ m) {c : a_C} (h : a_okc n c) : a_okc m c := by
  cases c with
  | inl x => exact fun f e i j q => (h f e i j q).imp (fun q => Nat.lt_of_lt_of_le q hnm) id
  | inr o => exact fun v hv => a_okv_mono hnm (h v hv)
/-- two maps of the numbers that agree on all that name something -/
def a_agr (n : Nat) (ad ad' : Nat → Nat) : Prop := ∀ i, a_okr n i → ad' i = ad i
theorem a_v_agr {n : Nat} {ad ad' : Nat → Nat} (ha : a_agr n ad ad') {v : Value} (h : a_okv n v) : a_v ad' v = a_v ad v := by
  cases v with
  | ref i => show Value.ref (ad' i) = Value.ref (ad i); rw [ha i (h i rfl)]
  | _ => rfl
theorem a_vs_agr {n : Nat} {ad ad' : Nat → Nat} (ha : a_agr n ad ad') {l : List Value} (h : ∀ v ∈ l, a_okv n v) : l.map (a_v ad') = l.map (a_v ad) :=
  List.map_congr_left fun v hv => a_v_agr ha (h v hv)
theorem a_k_agr {n : Nat} {ad ad' : Nat → Nat} (ha : a_agr n ad ad') {x : (Nat → Int32) ⊕ (Nat → Int64) ⊕ (Nat → UInt32) ⊕ (Nat → UInt64) ⊕ (Nat → Option Nat)} (h : ∀ f, x = .inr (.inr (.inr (.inr f))) → ∀ i j, f i = some j → a_okr n j) : a_k ad' x = a_k ad x := by
  rcases x with f | f | f | f | f
  · rfl
  · rfl
  · rfl
  · rfl
  · show Sum.inr (Sum.inr (Sum.inr (Sum.inr (fun i => (f i).map ad')))) = Sum.inr (Sum.inr (Sum.inr (Sum.inr (fun i => (f i).map ad))))
    have e : (fun i => (f i).map ad') = (fun i => (f i).map ad) := by
      funext i
      cases hf : f i with
      | none => rfl
      | some j => show some (ad' j) = some (ad j); rw [ha j (h f rfl i j hf)]
    rw [e]
theorem a_e_agr {n : Nat} {ad ad' : Nat → Nat} (ha : a_agr n ad ad') {c : a_C} (h : a_okc n c) (cA : ClassId) : a_e ad' cA c = a_e ad cA c := by
  cases c with
  | inl x => show Sum.inl (cA, x.2.1, a_k ad' x.2.2) = Sum.inl (cA, x.2.1, a_k ad x.2.2); rw [a_k_agr ha h]
  | inr o => show Sum.inr (o.1, o.2.map (a_v ad')) = Sum.inr (o.1, o.2.map (a_v ad)); rw [a_vs_agr ha h]
theorem a_agr_refl (n : Nat) (ad : Nat → Nat) : a_agr n ad ad := fun _ _ => rfl
theorem a_agr_up {n : Nat} (ad : Nat → Nat) (q : Nat) (hn : n < a_big) : a_agr n ad (va_up ad n q) := fun i h => by
  have : i ≠ n := by rcases h with h | h <;> omega
  simp [va_up, this]
/-- a new cell at the end -/
theorem a_ws_push {ad : Nat → Nat} {ca : Nat → ClassId} {h : a_H} {c : a_C} {q : Nat} {cA : ClassId} (hh : a_okh h) (hn : h.length < a_big) (hc : a_okc h.length c) :
    a_ws (va_up ad h.length q) (va_up ca h.length cA) (h ++ [c]) = a_ws ad ca h ++ [(q, a_e ad cA c)] := by
  have hag := a_agr_up ad q hn
  apply List.ext_getElem?
  intro j
  by_cases hj : j < h.length
  · rw [List.getElem?_append_left (by rw [a_ws_len]; exact hj)]
    obtain ⟨d, hd⟩ : ∃ d, h[j]? = some d := ⟨_, List.getElem?_eq_getElem hj⟩
    rw [a_ws_get (h := h ++ [c]) (c := d) (by rw [List.getElem?_append_left hj]; exact hd), a_ws_get hd, a_e_agr hag (hh j d hd)]
    have : j ≠ h.length := Nat.ne_of_lt hj
    simp [va_up, this]
  · by_cases hj2 : j = h.length
    · subst hj2
      rw [a_ws_get (h := h ++ [c]) (c := c) (by simp), List.getElem?_append_right (by rw [a_ws_len]; exact Nat.le_refl _), a_ws_len, Nat.sub_self, a_e_agr hag hc]
      simp [va_up]
    · have h1 : (a_ws (va_up ad h.length q) (va_up ca h.length cA) (h ++ [c]))[j]? = none := List.getElem?_eq_none (by rw [a_ws_len]; simp; omega)
      have h2 : (a_ws ad ca h ++ [(q, a_e ad cA c)])[j]? = none := List.getElem?_eq_none (by simp [a_ws_len]; omega)
      rw [h1, h2]
/-- the world of an abstract heap -/
def a_Wd (D : va_G) (ad : Nat → Nat) (ca : Nat → ClassId) (h : a_H) (A : Nat → Prop) (s : State) (H : Heap) : Prop :=
  va_P D vwCl (a_ws ad ca h) H ∧ va_D A (a_ws ad ca h) ∧ va_K D vwCl [] s ∧ ∀ (i : Nat) (x : FieldType × vp_A), h[i]? = some (.inl x) → ArrOfT s (ca i) x.1 ∧ va_RA s (ca i) x.1
theorem a_Wd.K {D : va_G} {ad : Nat → Nat} {ca : Nat → ClassId} {h : a_H} {A : Nat → Prop} {s : State} {H : Heap} (w : a_Wd D ad ca h A s H) {i : Nat} {x : FieldType × vp_A} (hi : h[i]? = some (.inl x)) : va_K D vwCl [(ca i, x.1)] s :=
  ⟨w.2.2.1.1, fun k q hk => by
    cases k with
    | zero => cases hk; exact w.2.2.2 i x hi
    | succ k => simp at hk⟩
theorem a_Wd.K2 {D : va_G} {ad : Nat → Nat} {ca : Nat → ClassId} {h : a_H} {A : Nat → Prop} {s : State} {H : Heap} (w : a_Wd D ad ca h A s H) {i j : Nat} {x y : FieldType × vp_A} (hi : h[i]? = some (.inl x)) (hj : h[j]? = some (.inl y)) : va_K D vwCl [(ca i, x.1), (ca j, y.1)] s :=
  ⟨w.2.2.1.1, fun k q hk => by
    cases k with
    | zero => cases hk; exact w.2.2.2 i x hi
    | succ k =>
      cases k with
      | zero => cases hk; exact w.2.2.2 j y hj
      | succ k => simp at hk⟩
theorem a_Wd.set {D : va_G} {ad : Nat → Nat} {ca : Nat → ClassId} {h : a_H} {A : Nat → Prop} {s : State} {H H1 : Heap} (w : a_Wd D ad ca h A s H) {i : Nat} {c : a_C} (hP : va_P D vwCl ((a_ws ad ca h).set i (ad i, a_e ad (ca i) c)) H1) (hD : va_D A ((a_ws ad ca h).set i (ad i, a_e ad (ca i) c)))
    (hty : ∀ x, c = .inl x → ∃ y, h[i]? = some (.inl y) ∧ y.1 = x.1) : a_Wd D ad ca (h.set i c) A s H1 := by
  rw [a_ws_set] at hP hD
  refine ⟨hP, hD, w.2.2.1, fun j x hj => ?_⟩
  rw [List.getElem?_set] at hj
  by_cases hij : i = j
  · subst hij
    rw [if_pos rfl] at hj
    by_cases hl : i < h.length
    · rw [if_pos hl] at hj
      cases hj
      obtain ⟨y, h1, h2⟩ := hty x rfl
      rw [← h2]
      exact w.2.2.2 i y h1
    · rw [if_neg hl] at hj; cases hj
  · rw [if_neg hij] at hj
    exact w.2.2.2 j x hj
theorem a_Wd.moved {D : va_G} {ad : Nat → Nat} {ca : Nat → ClassId} {h : a_H} {A : Nat → Prop} {u U : State} {H : Heap} (hvm : u.vm.Alike U.vm) (w : a_Wd D ad ca h A u H) : a_Wd D ad ca h A U H :=
  ⟨w.1, w.2.1, w.2.2.1.moved hvm, fun i x hi => ⟨arrOfT_moved hvm (w.2.2.2 i x hi).1, (w.2.2.2 i x hi).2.moved hvm⟩⟩
theorem a_okh_set {h : a_H} (hh : a_okh h) (i : Nat) {c : a_C} (hc : a_okc h.length c) : a_okh (h.set i c) := by
  intro j d hj
  rw [List.length_set]
  rw [List.getElem?_set] at hj
  by_cases hij : i = j
  · subst hij
    rw [if_pos rfl] at hj
    by_cases hl : i < h.length
    · rw [if_pos hl] at hj; cases hj; exact hc
    · rw [if_neg hl] at hj; cases hj
  · rw [if_neg hij] at hj; exact hh j d hj
theorem a_okh_push {h : a_H} (hh : a_okh h) {c : a_C} (hc : a_okc h.length c) : a_okh (h ++ [c]) := by
  intro j d hj
  rw [List.length_append]
  by_cases hl : j < h.length
  · rw [List.getElem?_append_left hl] at hj
    exact a_okc_mono (Nat.le_add_right _ _) (hh j d hj)
  · rw [List.getElem?_append_right (Nat.not_lt.mp hl)] at hj
    have : j - h.length < 1 := (List.getElem?_eq_some_iff.mp hj).1
    rw [show j - h.length = 0 by omega] at hj
    cases hj
    exact a_okc_mono (Nat.le_add_right _ _) hc
end
section
/-! One instruction of the abstract machine, calls, returns and throws aside. -/
/-- a place of the machine: pc, locals, stack, heap, cells and slots that may still be made -/
abbrev a_S : Type := Nat × List Value × List Value × a_H × Nat × Nat
def a_dead : Value := .retAddr 0
/-- locals behind a store -/
def a_sto (ls : List Value) (i : Nat) (v : Value) : List Value :=
  let l1 := if i = 0 then ls else match ls[i - 1]? with
    | some w => if w.category = 2 then ls.set (i - 1) a_dead else ls
    | none => ls
  let l2 := l1.set i v
  if v.category = 2 then l2.set (i + 1) a_dead else l2
def a_ty (ci k : Nat) : FieldType := match ci with
  | 0 => tyX0 k
  | 1 => tyX1 k
  | 2 => tyX2 k
  | 3 => tyX3 k
  | 4 => tyX4 k
  | 5 => tyX5 k
  | 6 => tyX6 k
  | 7 => tyX7 k
  | 8 => tyX8 k
  | _ => tyL k
def a_nf (ci : Nat) : Nat := match ci with
  | 0 => 2
  | 1 => 12
  | 2 => 3
  | 3 => 15
  | 4 => 4
  | 5 => 2
  | 6 => 7
  | 7 => 8
  | 8 => 16
  | _ => 33
def a_cn (ci : Nat) : String := match ci with
  | 0 => RX0
  | 1 => RX1
  | 2 => RX2
  | 3 => RX3
  | 4 => RX4
  | 5 => RX5
  | 6 => RX6
  | 7 => RX7
  | 8 => RX8
  | _ => RL
def a_c0 (cnd : ClassFile.Cond) (x : Int32) : Bool := match cnd with
  | .eq => decide (x = 0)
  | .ne => decide (¬ x = 0)
  | .lt => decide (x < 0)
  | .ge => decide (0 ≤ x)
  | .gt => decide (0 < x)
  | .le => decide (x ≤ 0)
def a_c2 (cnd : ClassFile.Cond) (x y : Int32) : Bool := match cnd with
  | .eq => decide (x = y)
  | .ne => decide (¬ x = y)
  | .lt => decide (x < y)
  | .ge => decide (y ≤ x)
  | .gt => decide (y < x)
  | .le => decide (x ≤ y)
def a_ldI (ls : List Value) (k : Nat) : Option Value := match ls[k]? with
  | some (.int x) => some (.int x)
  | _ => none
def a_ldL (ls : List Value) (k : Nat) : Option Value := match ls[k]? with
  | some (.long x) => some (.long x)
  | _ => none
def a_ldD (ls : List Value) (k : Nat) : Option Value := match ls[k]? with
  | some (.double x) => some (.double x)
  | _ => none
def a_ldA (ls : List Value) (k : Nat) : Option Value := match ls[k]? with
  | some (.ref x) => some (.ref x)
  | _ => none
/-- the value that a load of an element gives, by the instruction's kind: 0 int, 1 byte or boolean, 2 long, 3 reference -/
def a_rd (xs : Nat → Int32) (L : Nat) (h : a_H) (o : Nat) (j : Int32) (kd : Nat) : Option Value :=
  if o = a_big then (if kd = 0 ∧ ¬ (j < 0 ∨ L ≤ j.toNatClampNeg) then some (.int (xs j.toNatClampNeg)) else none) else
  match h[o]? with
  | some (.inl (ty, n, .inl f)) => if ¬ (j < 0 ∨ n ≤ j.toNatClampNeg) ∧ ((kd = 0 ∧ ty = .int) ∨ (kd = 1 ∧ (ty = .byte ∨ ty = .boolean))) then some (.int (f j.toNatClampNeg)) else none
  | some (.inl (ty, n, .inr (.inl f))) => if ¬ (j < 0 ∨ n ≤ j.toNatClampNeg) ∧ kd = 2 ∧ ty = .long then some (.long (f j.toNatClampNeg)) else none
  | some (.inl (ty, n, .inr (.inr (.inr (.inr f))))) => if ¬ (j < 0 ∨ n ≤ j.toNatClampNeg) ∧ kd = 3 ∧ ty.isReference = true then some (va_rf (f j.toNatClampNeg)) else none
  | _ => none
/-- the heap behind a store into an array of numbers -/
def a_wr (h : a_H) (o : Nat) (j : Int32) (v : Value) (kd : Nat) : Option a_H :=
  match h[o]?, v with
  | some (.inl (ty, n, .inl f)), .int x => if ¬ (j < 0 ∨ n ≤ j.toNatClampNeg) then (if kd = 0 ∧ ty = .int then some (h.set o (.inl (ty, n, .inl (upd f j.toNatClampNeg x)))) else
      if kd = 1 ∧ ty = .byte then some (h.set o (.inl (ty, n, .inl (upd f j.toNatClampNeg (vp_nar .byte x))))) else
      if kd = 1 ∧ ty = .boolean then some (h.set o (.inl (ty, n, .inl (upd f j.toNatClampNeg (vp_nar .boolean x))))) else none) else none
  | some (.inl (ty, n, .inr (.inl f))), .long x => if ¬ (j < 0 ∨ n ≤ j.toNatClampNeg) ∧ kd = 2 ∧ ty = .long then some (h.set o (.inl (ty, n, .inr (.inl (vp_updL f j.toNatClampNeg x))))) else none
  | _, _ => none
/-- the heap behind a store of an object of class ci into an array of such -/
def a_wq (h : a_H) (o : Nat) (j : Int32) (q ci : Nat) : Option a_H :=
  match h[o]?, h[q]? with
  | some (.inl (ty, n, .inr (.inr (.inr (.inr f))))), some (.inr (cj, _)) => if ¬ (j < 0 ∨ n ≤ j.toNatClampNeg) ∧ cj = ci ∧ ci < 10 ∧ ty = .object (a_cn ci) then some (h.set o (.inl (ty, n, .inr (.inr (.inr (.inr (va_up f j.toNatClampNeg (some q))))))))  else none
  | _, _ => none
def a_gf (h : a_H) (o ci k : Nat) : Option Value := match h[o]? with
  | some (.inr (cj, fs)) => if cj = ci then fs[k]? else none
  | _ => none
def a_pf (h : a_H) (o ci k : Nat) (v : Value) : Option a_H := match h[o]? with
  | some (.inr (cj, fs)) => if cj = ci ∧ k < fs.length ∧ narrow (a_ty ci k) v = v ∧ fits (a_ty ci k) v = true then some (h.set o (.inr (ci, fs.set k v))) else none
  | _ => none
def a_df (ty : FieldType) : Option vp_A := match ty with
  | .int => some (0, .inl (fun _ => 0))
  | .byte => some (0, .inl (fun _ => 0))
  | .boolean => some (0, .inl (fun _ => 0))
  | .long => some (0, .inr (.inl (fun _ => 0)))
  | _ => none
def a_len (L : Nat) (h : a_H) (o : Nat) : Option Int32 := if o = a_big then some (Int32.ofNat L) else match h[o]? with
  | some (.inl (_, n, _)) => some (Int32.ofNat n)
  | _ => none
def a_ins (xs : Nat → Int32) (L : Nat) (i : Instr) (a b : Nat) (pc : Nat) (ls st : List Value) (h : a_H) (c n : Nat) : Option a_S :=
  match i with
  | .iconst k => some (pc + 1, ls, .int (Int32.ofInt k) :: st, h, c, n)
  | .bipush k => some (pc + 2, ls, .int (Int8.ofInt k).toInt32 :: st, h, c, n)
  | .sipush k => some (pc + 3, ls, .int (Int16.ofInt k).toInt32 :: st, h, c, n)
  | .lconst k => some (pc + 1, ls, .long (Int64.ofNat (k : Nat)) :: st, h, c, n)
  | .fconst k => if k = 0 then some (pc + 1, ls, .float FP.fconst0 :: st, h, c, n) else none
  | .dconst k => if k = 0 then some (pc + 1, ls, .double FP.dconst0 :: st, h, c, n) else none
  | .ldc _ => some (pc + 2, ls, .ref (a_big + 1 + a) :: st, h, c, n)
  | .ldc_w _ => some (pc + 3, ls, .ref (a_big + 1 + a) :: st, h, c, n)
  | .ldc2_w _ => some (pc + 3, ls, .long (Int64.ofNat a) :: st, h, c, n)
  | .iload k => (a_ldI ls k).map fun v => (pc + 2, ls, v :: st, h, c, n)
  | .iload_n k => (a_ldI ls k).map fun v => (pc + 1, ls, v :: st, h, c, n)
  | .lload k => (a_ldL ls k).map fun v => (pc + 2, ls, v :: st, h, c, n)
  | .lload_n k => (a_ldL ls k).map fun v => (pc + 1, ls, v :: st, h, c, n)
  | .dload k => (a_ldD ls k).map fun v => (pc + 2, ls, v :: st, h, c, n)
  | .dload_n k => (a_ldD ls k).map fun v => (pc + 1, ls, v :: st, h, c, n)
  | .aload k => (a_ldA ls k).map fun v => (pc + 2, ls, v :: st, h, c, n)
  | .aload_n k => (a_ldA ls k).map fun v => (pc + 1, ls, v :: st, h, c, n)
  | .istore k => match st with
    | .int x :: r => if k < ls.length then some (pc + 2, a_sto ls k (.int x), r, h, c, n) else none
    | _ => none
  | .istore_n k => match st with
    | .int x :: r => if (k : Nat) < ls.length then some (pc + 1, a_sto ls k (.int x), r, h, c, n) else none
    | _ => none
  | .astore k => match st with
    | .ref x :: r => if k < ls.length then some (pc + 2, a_sto ls k (.ref x), r, h, c, n) else none
    | _ => none
  | .astore_n k => match st with
    | .ref x :: r => if (k : Nat) < ls.length then some (pc + 1, a_sto ls k (.ref x), r, h, c, n) else none
    | _ => none
  | .dstore k => match st with
    | .double x :: r => if k + 1 < ls.length then some (pc + 2, a_sto ls k (.double x), r, h, c, n) else none
    | _ => none
  | .iinc k d => match ls[k]? with
    | some (.int x) => some (pc + 3, a_sto ls k (.int (x + Int32.ofInt d)), st, h, c, n)
    | _ => none
  | .iadd => match st with
    | .int y :: .int x :: r => some (pc + 1, ls, .int (x + y) :: r, h, c, n)
    | _ => none
  | .isub => match st with
    | .int y :: .int x :: r => some (pc + 1, ls, .int (x - y) :: r, h, c, n)
    | _ => none
  | .imul => match st with
    | .int y :: .int x :: r => some (pc + 1, ls, .int (x * y) :: r, h, c, n)
    | _ => none
  | .idiv => match st with
    | .int y :: .int x :: r => if y = 0 then none else some (pc + 1, ls, .int (x / y) :: r, h, c, n)
    | _ => none
  | .irem => match st with
    | .int y :: .int x :: r => if y = 0 then none else some (pc + 1, ls, .int (x - x / y * y) :: r, h, c, n)
    | _ => none
  | .iand => match st with
    | .int y :: .int x :: r => some (pc + 1, ls, .int (x &&& y) :: r, h, c, n)
    | _ => none
  | .ior => match st with
    | .int y :: .int x :: r => some (pc + 1, ls, .int (x ||| y) :: r, h, c, n)
    | _ => none
  | .ishl => match st with
    | .int y :: .int x :: r => some (pc + 1, ls, .int (x <<< (y &&& 31)) :: r, h, c, n)
    | _ => none
  | .ishr => match st with
    | .int y :: .int x :: r => some (pc + 1, ls, .int (x >>> (y &&& 31)) :: r, h, c, n)
    | _ => none
  | .iushr => match st with
    | .int y :: .int x :: r => some (pc + 1, ls, .int (x.toUInt32 >>> (y.toUInt32 &&& Int32.toUInt32 31)).toInt32 :: r, h, c, n)
    | _ => none
  | .i2l => match st with
    | .int x :: r => some (pc + 1, ls, .long x.toInt64 :: r, h, c, n)
    | _ => none
  | .i2b => match st with
    | .int x :: r => some (pc + 1, ls, .int x.toInt8.toInt32 :: r, h, c, n)
    | _ => none
  | .i2d => match st with
    | .int x :: r => some (pc + 1, ls, .double (FP.i2d x) :: r, h, c, n)
    | _ => none
  | .i2f => match st with
    | .int x :: r => some (pc + 1, ls, .float (FP.i2f x) :: r, h, c, n)
    | _ => none
  | .f2d => match st with
    | .float x :: r => if FP.f2d x &&& 0x7fffffffffffffff ≤ 0x7ff0000000000000 then some (pc + 1, ls, .double (FP.f2d x) :: r, h, c, n) else none
    | _ => none
  | .ddiv => match st with
    | .double y :: .double x :: r => if FP.ddiv x y &&& 0x7fffffffffffffff ≤ 0x7ff0000000000000 then some (pc + 1, ls, .double (FP.ddiv x y) :: r, h, c, n) else none
    | _ => none
  | .fdiv => match st with
    | .float y :: .float x :: r => if FP.fdiv x y &&& 0x7fffffff ≤ 0x7f800000 then some (pc + 1, ls, .float (FP.fdiv x y) :: r, h, c, n) else none
    | _ => none
  | .lcmp => match st with
    | .long y :: .long x :: r => some (pc + 1, ls, .int (lg_cmp x y) :: r, h, c, n)
    | _ => none
  | .dcmp op => match st with
    | .double y :: .double x :: r => some (pc + 1, ls, .int (Op.cmpValue (FP.dcmp x y) op) :: r, h, c, n)
    | _ => none
  | .dup => match st with
    | v :: r => if v.category = 1 then some (pc + 1, ls, v :: v :: r, h, c, n) else none
    | _ => none
  | .dup2 => match st with
    | v :: w :: r => if v.category = 1 ∧ w.category = 1 then some (pc + 1, ls, v :: w :: v :: w :: r, h, c, n) else none
    | _ => none
  | .pop => match st with
    | v :: r => if v.category = 1 then some (pc + 1, ls, r, h, c, n) else none
    | _ => none
  | .ifCond cnd off => match st with
    | .int x :: r => if 0 ≤ (pc : Int) + off then some (if a_c0 cnd x then ((pc : Int) + off).toNat else pc + 3, ls, r, h, c, n) else none
    | _ => none
  | .if_icmp cnd off => match st with
    | .int y :: .int x :: r => if 0 ≤ (pc : Int) + off then some (if a_c2 cnd x y then ((pc : Int) + off).toNat else pc + 3, ls, r, h, c, n) else none
    | _ => none
  | .goto off => if 0 ≤ (pc : Int) + off then some (((pc : Int) + off).toNat, ls, st, h, c, n) else none
  | .tableswitch dflt lo hi offs => match st with
    | .int x :: r => if x.toInt < lo ∨ hi < x.toInt then (if 0 ≤ (pc : Int) + dflt then some (((pc : Int) + dflt).toNat, ls, r, h, c, n) else none)
      else match offs[(x.toInt - lo).toNat]? with
        | some off => if 0 ≤ (pc : Int) + off then some (((pc : Int) + off).toNat, ls, r, h, c, n) else none
        | none => none
    | _ => none
  | .getfield _ => match st with
    | .ref o :: r => (a_gf h o a b).map fun v => (pc + 3, ls, v :: r, h, c, n)
    | _ => none
  | .putfield _ => match st with
    | v :: .ref o :: r => (a_pf h o a b v).map fun h1 => (pc + 3, ls, r, h1, c, n)
    | _ => none
  | .iaload => match st with
    | .int j :: .ref o :: r => (a_rd xs L h o j 0).map fun v => (pc + 1, ls, v :: r, h, c, n)
    | _ => none
  | .baload => match st with
    | .int j :: .ref o :: r => (a_rd xs L h o j 1).map fun v => (pc + 1, ls, v :: r, h, c, n)
    | _ => none
  | .laload => match st with
    | .int j :: .ref o :: r => (a_rd xs L h o j 2).map fun v => (pc + 1, ls, v :: r, h, c, n)
    | _ => none
  | .aaload => match st with
    | .int j :: .ref o :: r => (a_rd xs L h o j 3).map fun v => (pc + 1, ls, v :: r, h, c, n)
    | _ => none
  | .iastore => match st with
    | v :: .int j :: .ref o :: r => (a_wr h o j v 0).map fun h1 => (pc + 1, ls, r, h1, c, n)
    | _ => none
  | .bastore => match st with
    | v :: .int j :: .ref o :: r => (a_wr h o j v 1).map fun h1 => (pc + 1, ls, r, h1, c, n)
    | _ => none
  | .lastore => match st with
    | v :: .int j :: .ref o :: r => (a_wr h o j v 2).map fun h1 => (pc + 1, ls, r, h1, c, n)
    | _ => none
  | .aastore => match st with
    | .ref q :: .int j :: .ref o :: r => (a_wq h o j q a).map fun h1 => (pc + 1, ls, r, h1, c, n)
    | _ => none
  | .arraylength => match st with
    | .ref o :: r => (a_len L h o).map fun v => (pc + 1, ls, .int v :: r, h, c, n)
    | _ => none
  | .new _ => if 1 ≤ c ∧ a_nf a ≤ n ∧ h.length < a_big ∧ a < 10 then some (pc + 3, ls, .ref h.length :: st, h ++ [.inr (a, (List.range (a_nf a)).map fun k => defaultValue (a_ty a k))], c - 1, n - a_nf a) else none
  | .newarray at9 => match st with
    | .int k :: r => match a_df (newarray.typeOf at9) with
      | some x => if 1 ≤ c ∧ k.toNatClampNeg ≤ n ∧ h.length < a_big ∧ ¬ k < 0 ∧ k.toNatClampNeg ≤ 65536 then some (pc + 2, ls, .ref h.length :: r, h ++ [.inl (newarray.typeOf at9, k.toNatClampNeg, x.2)], c - 1, n - k.toNatClampNeg) else none
      | none => none
    | _ => none
  | .anewarray _ => match st with
    | .int k :: r => if 1 ≤ c ∧ k.toNatClampNeg ≤ n ∧ h.length < a_big ∧ ¬ k < 0 ∧ k.toNatClampNeg ≤ 65536 then some (pc + 3, ls, .ref h.length :: r, h ++ [.inl (.object (a_cn a), k.toNatClampNeg, .inr (.inr (.inr (.inr (fun _ => none)))))], c - 1, n - k.toNatClampNeg) else none
    | _ => none
  | _ => none
end
section
/-! One instruction of the abstract machine is one of the machine. -/
def lw_good : List Cond := lw_tbl.filter goodWord
def a_T (ci : Nat) : u_T := match ci with
  | 0 => TX0
  | 1 => TX1
  | 2 => TX2
  | 3 => TX3
  | 4 => TX4
  | 5 => TX5
  | 6 => TX6
  | 7 => TX7
  | 8 => TX8
  | _ => TL
theorem a_cl {ci : Nat} (h : ci < 10) : vwCl[ci]? = some (a_cn ci, a_T ci, a_nf ci) := by
  match ci, h with
  | 0, _ => rfl
  | 1, _ => rfl
  | 2, _ => rfl
  | 3, _ => rfl
  | 4, _ => rfl
  | 5, _ => rfl
  | 6, _ => rfl
  | 7, _ => rfl
  | 8, _ => rfl
  | 9, _ => rfl
theorem a_ty_ok {ci : Nat} (h : ci < 10) : ∀ k, k < a_nf ci → parseFieldDescriptor (a_T ci k).2.2.1 = some (a_ty ci k) := by
  match ci, h with
  | 0, _ => exact tyX0_ok
  | 1, _ => exact tyX1_ok
  | 2, _ => exact tyX2_ok
  | 3, _ => exact tyX3_ok
  | 4, _ => exact tyX4_ok
  | 5, _ => exact tyX5_ok
  | 6, _ => exact tyX6_ok
  | 7, _ => exact tyX7_ok
  | 8, _ => exact tyX8_ok
  | 9, _ => exact tyL_ok
theorem a_nm_ok {ci : Nat} (h : ci < 10) : ∀ a, a < a_nf ci → ∀ b, b < a_nf ci → a ≠ b → (a_T ci a).2.1 ≠ (a_T ci b).2.1 := by
  match ci, h with
  | 0, _ => exact nmX0
  | 1, _ => exact nmX1
  | 2, _ => exact nmX2
  | 3, _ => exact nmX3
  | 4, _ => exact nmX4
  | 5, _ => exact nmX5
  | 6, _ => exact nmX6
  | 7, _ => exact nmX7
  | 8, _ => exact nmX8
  | 9, _ => exact nmL
theorem a_cat (ad : Nat → Nat) (v : Value) : (a_v ad v).category = v.category := by cases v <;> rfl
theorem a_nar (ad : Nat → Nat) (ty : FieldType) (v : Value) (h : narrow ty v = v) : narrow ty (a_v ad v) = a_v ad v := by
  cases v with
  | ref i => cases ty <;> rfl
  | _ => exact h
theorem a_fit (ad : Nat → Nat) (ty : FieldType) (v : Value) : fits ty (a_v ad v) = fits ty v := by
  cases v with
  | ref i => cases ty <;> rfl
  | _ => rfl
def a_oks (n : Nat) (l : List Value) : Prop := ∀ v ∈ l, a_okv n v
theorem a_oks_cons {n : Nat} {v : Value} {l : List Value} : a_oks n (v :: l) ↔ a_okv n v ∧ a_oks n l := by simp [a_oks]
theorem a_okv_int (n : Nat) (x : Int32) : a_okv n (.int x) := fun i e => by cases e
theorem a_okv_long (n : Nat) (x : Int64) : a_okv n (.long x) := fun i e => by cases e
theorem a_okv_fl (n : Nat) (x : UInt32) : a_okv n (.float x) := fun i e => by cases e
theorem a_okv_db (n : Nat) (x : UInt64) : a_okv n (.double x) := fun i e => by cases e
theorem a_okv_dead (n : Nat) : a_okv n a_dead := fun i e => by cases e
theorem a_okv_null (n : Nat) : a_okv n .null := fun i e => by cases e
theorem a_oks_at {n : Nat} {l : List Value} (h : a_oks n l) {k : Nat} {v : Value} (e : l[k]? = some v) : a_okv n v := h v (List.mem_of_getElem? e)
theorem a_oks_set {n : Nat} {l : List Value} (h : a_oks n l) (k : Nat) {v : Value} (hv : a_okv n v) : a_oks n (l.set k v) := fun w hw => by
  rcases List.mem_or_eq_of_mem_set hw with q | q
  · exact h w q
  · rw [q]; exact hv
theorem a_oks_sto {n : Nat} {l : List Value} (h : a_oks n l) (k : Nat) {v : Value} (hv : a_okv n v) : a_oks n (a_sto l k v) := by
  unfold a_sto
  have h1 : a_oks n (if k = 0 then l else match l[k - 1]? with
    | some w => if w.category = 2 then l.set (k - 1) a_dead else l
    | none => l) := by
    split
    · exact h
    · split
      · split
        · exact a_oks_set h _ (a_okv_dead n)
        · exact h
      · exact h
  dsimp only
  split
  · exact a_oks_set (a_oks_set h1 _ hv) _ (a_okv_dead n)
  · exact a_oks_set h1 _ hv
theorem a_oks_mono {n m : Nat} (hnm : n ≤ m) {l : List Value} (h : a_oks n l) : a_oks m l := fun v hv => a_okv_mono hnm (h v hv)
theorem a_sto_len (l : List Value) (k : Nat) (v : Value) : (a_sto l k v).length = l.length := by
  unfold a_sto
  dsimp only
  split <;> simp only [List.length_set] <;> split <;> first | rfl | (split <;> first | rfl | (split <;> simp))
/-- the locals -/
def a_live (v : Value) : Prop := ∀ k, v ≠ .retAddr k
def a_L (ad : Nat → Nat) (nL : Nat) (ls : List Value) (ls' : Array Slot) : Prop := ls'.size = nL ∧ lv_wf ls' ∧ ls.length = nL ∧ ∀ (i : Nat) (v : Value), ls[i]? = some v → a_live v → ls'[i]? = some (.val (a_v ad v))
def a_as (ad : Nat → Nat) (ls : List Value) : List (Nat × Value) := (ls.mapIdx fun i v => (i, v)).filterMap fun q => match q.2 with
  | .retAddr _ => none
  | v => some (q.1, a_v ad v)
theorem a_as_mem {ad : Nat → Nat} {ls : List Value} {i : Nat} {v : Value} (e : ls[i]? = some v) (h : a_live v) : (i, a_v ad v) ∈ a_as ad ls := by
  refine List.mem_filterMap.mpr ⟨(i, v), List.mem_of_getElem? (i := i) (by simp [e]), ?_⟩
  cases v <;> first | rfl | exact absurd rfl (h _)
theorem a_as_inv {ad : Nat → Nat} {ls : List Value} {q : Nat × Value} (h : q ∈ a_as ad ls) : ∃ v, ls[q.1]? = some v ∧ a_live v ∧ q.2 = a_v ad v := by
  obtain ⟨r, hr, he⟩ := List.mem_filterMap.mp h
  obtain ⟨i, hi⟩ := List.getElem?_of_mem hr
  simp only [List.getElem?_mapIdx, Option.map_eq_some_iff] at hi
  obtain ⟨v, h1, h2⟩ := hi
  subst h2
  cases v <;> simp at he <;> subst he <;> exact ⟨_, h1, (fun k e => by cases e), rfl⟩
theorem a_L.has {ad : Nat → Nat} {nL : Nat} {ls : List Value} {ls' : Array Slot} (h : a_L ad nL ls ls') : lv_has ls' nL (a_as ad ls) :=
  ⟨h.1, h.2.1, fun q hq => by
    obtain ⟨v, h1, h2, h3⟩ := a_as_inv hq
    rw [h3]
    exact h.2.2.2 q.1 v h1 h2⟩
theorem a_L.sto1 {ad : Nat → Nat} {nL : Nat} {ls : List Value} {ls' ls2 : Array Slot} {i : Nat} {v : Value} (h : a_L ad nL ls ls') (hi : i < ls.length) (hc : v.category = 1)
    (h2 : lv_has ls2 nL ((i, a_v ad v) :: (a_as ad ls).filter (fun q => !(q.1 == i) && !(q.1 + 1 == i && q.2.category == 2)))) : a_L ad nL (a_sto ls i v) ls2 := by
  refine ⟨h2.1, h2.2.1, by rw [a_sto_len]; exact h.2.2.1, fun j w hj hw => ?_⟩
  have hc2 : ¬ v.category = 2 := by omega
  simp only [a_sto, if_neg hc2] at hj
  by_cases hji : j = i
  · subst hji
    rw [List.getElem?_set_self' ] at hj
    have : w = v := by
      revert hj
      cases hq : (if j = 0 then ls else match ls[j - 1]? with
        | some w => if w.category = 2 then ls.set (j - 1) a_dead else ls
        | none => ls)[j]? with
      | none => intro z; simp at z
      | some z => intro z2; simp at z2; exact z2.symm
    subst this
    exact h2.2.2 (j, a_v ad w) List.mem_cons_self
  · rw [List.getElem?_set_ne (fun e => hji e.symm)] at hj
    have key : ls[j]? = some w ∧ ¬ (j + 1 = i ∧ w.category = 2) := by
      split at hj
      · exact ⟨hj, fun q => by omega⟩
      · rename_i h0
        split at hj
        · rename_i w0 hw0
          split at hj
          · by_cases e : j = i - 1
            · subst e
              rw [List.getElem?_set_self (List.getElem?_eq_some_iff.mp hw0).1] at hj
              cases hj
              exact absurd rfl (hw 0)
            · rw [List.getElem?_set_ne (fun q => e q.symm)] at hj
              exact ⟨hj, fun q => by omega⟩
          · rename_i hn
            refine ⟨hj, fun q => ?_⟩
            have : j = i - 1 := by omega
            subst this
            rw [hw0] at hj
            cases hj
            exact hn q.2
        · rename_i hw0
          refine ⟨hj, fun q => ?_⟩
          have : j = i - 1 := by omega
          subst this
          rw [hw0] at hj
          cases hj
    have hm : (j, a_v ad w) ∈ (a_as ad ls).filter (fun q => !(q.1 == i) && !(q.1 + 1 == i && q.2.category == 2)) := by
      refine List.mem_filter.mpr ⟨a_as_mem key.1 hw, ?_⟩
      have hx := key.2
      rw [← a_cat ad w] at hx
      simp only [Bool.and_eq_true, Bool.not_eq_true', beq_eq_false_iff_ne, ne_eq, Bool.and_eq_false_iff]
      refine ⟨hji, ?_⟩
      by_cases e : j + 1 = i
      · exact Or.inr (fun q => hx ⟨e, q⟩)
      · exact Or.inl e
    exact h2.2.2 (j, a_v ad w) (List.mem_cons_of_mem _ hm)
theorem a_L.sto2 {ad : Nat → Nat} {nL : Nat} {ls : List Value} {ls' ls2 : Array Slot} {i : Nat} {v : Value} (h : a_L ad nL ls ls') (hi : i + 1 < ls.length) (hc : v.category = 2)
    (h2 : lv_has ls2 nL ((i, a_v ad v) :: (a_as ad ls).filter (fun q => !(q.1 == i) && (!(q.1 == i + 1) && !(q.1 + 1 == i && q.2.category == 2))))) : a_L ad nL (a_sto ls i v) ls2 := by
  refine ⟨h2.1, h2.2.1, by rw [a_sto_len]; exact h.2.2.1, fun j w hj hw => ?_⟩
  simp only [a_sto, if_pos hc] at hj
  by_cases hj1 : j = i + 1
  · subst hj1
    rw [List.getElem?_set_self'] at hj
    exfalso
    revert hj
    generalize (List.set _ i v)[i + 1]? = z
    cases z with
    | none => intro z; simp at z
    | some z => intro z2; simp at z2; exact hw 0 z2.symm
  · rw [List.getElem?_set_ne (fun e => hj1 e.symm)] at hj
    by_cases hji : j = i
    · subst hji
      rw [List.getElem?_set_self'] at hj
      have : w = v := by
        revert hj
        generalize (if j = 0 then ls else match ls[j - 1]? with
          | some w => if w.category = 2 then ls.set (j - 1) a_dead else ls
          | none => ls)[j]? = z
        cases z with
        | none => intro z; simp at z
        | some z => intro z2; simp at z2; exact z2.symm
      subst this
      exact h2.2.2 (j, a_v ad w) List.mem_cons_self
    · rw [List.getElem?_set_ne (fun e => hji e.symm)] at hj
      have key : ls[j]? = some w ∧ ¬ (j + 1 = i ∧ w.category = 2) := by
        split at hj
        · exact ⟨hj, fun q => by omega⟩
        · rename_i h0
          split at hj
          · rename_i w0 hw0
            split at hj
            · by_cases e : j = i - 1
              · subst e
                rw [List.getElem?_set_self (List.getElem?_eq_some_iff.mp hw0).1] at hj
                cases hj
                exact absurd rfl (hw 0)
              · rw [List.getElem?_set_ne (fun q => e q.symm)] at hj
                exact ⟨hj, fun q => by omega⟩
            · rename_i hn
              refine ⟨hj, fun q => ?_⟩
              have : j = i - 1 := by omega
              subst this
              rw [hw0] at hj
              cases hj
              exact hn q.2
          · rename_i hw0
            refine ⟨hj, fun q => ?_⟩
            have : j = i - 1 := by omega
            subst this
            rw [hw0] at hj
            cases hj
      have hm : (j, a_v ad w) ∈ (a_as ad ls).filter (fun q => !(q.1 == i) && (!(q.1 == i + 1) && !(q.1 + 1 == i && q.2.category == 2))) := by
        refine List.mem_filter.mpr ⟨a_as_mem key.1 hw, ?_⟩
        have hx := key.2
        rw [← a_cat ad w] at hx
        simp only [Bool.and_eq_true, Bool.not_eq_true', beq_eq_false_iff_ne, ne_eq, Bool.and_eq_false_iff]
        refine ⟨hji, hj1, ?_⟩
        by_cases e : j + 1 = i
        · exact Or.inr (fun q => hx ⟨e, q⟩)
        · exact Or.inl e
      exact h2.2.2 (j, a_v ad w) (List.mem_cons_of_mem _ hm)
theorem a_L.agr {n : Nat} {ad ad' : Nat → Nat} (ha : a_agr n ad ad') {nL : Nat} {ls : List Value} {ls' : Array Slot} (ho : a_oks n ls) (h : a_L ad nL ls ls') : a_L ad' nL ls ls' :=
  ⟨h.1, h.2.1, h.2.2.1, fun i v hi hv => by rw [a_v_agr ha (a_oks_at ho hi)]; exact h.2.2.2 i v hi hv⟩
end
section
/-! What stands around the world: the script, the string constants, the statics that throws and texts read. -/
/-- the String constants; behind them, where there is one, the text that the law has built: xs 998 says whether, xs 999 how long, xs 1000 .. its letters -/
def a_sbC : List (List Int32) := [
  [104,111,108,100,101,114,32,97,110,110,32,50,48,48,59,104,111,108,100,101,114,32,98,111,98,32,54,48,59,104,111,108,100,101,114,32,99,105,100,32,53,48,48,59,97,115,115,101,115,115,111,114,32,48,59,97,115,115,101,115,115,111,114,32,52,59,114,101,115,101,114,118,101,32,51,48,48,59],
  [114,101,115,101,114,118,101,32],
  [104,111,108,100,101,114],
  [97,115,115,101,115,115,111,114],
  [114,101,115,101,114,118,101],
  [104,111,108,100,101,114,32],
  [97,115,115,101,115,115,111,114,32]]
def a_slC : List Nat := [78, 8, 6, 8, 7, 7, 9]
def a_tn (xs : Nat → Int32) : Nat := if xs 998 = 1 then 8 else 7
def a_tl (xs : Nat → Int32) : Nat := min (xs 999).toNatClampNeg 200
def a_tb (xs : Nat → Int32) : List Int32 := (List.range (a_tl xs)).map fun i => xs (1000 + i)
def a_sl (xs : Nat → Int32) : List Nat := a_slC ++ [a_tl xs]
def a_sb (xs : Nat → Int32) : List (List Int32) := a_sbC ++ [a_tb xs]
theorem a_tn_le (xs : Nat → Int32) : a_tn xs ≤ 8 := by unfold a_tn; split <;> omega
theorem a_sl_31 (xs : Nat → Int32) {i : Nat} (h : i < a_tn xs) : (a_sl xs).getD i 0 < 2 ^ 31 := by
  have h8 := Nat.lt_of_lt_of_le h (a_tn_le xs)
  by_cases h7 : i < 7
  · have e : (a_sl xs).getD i 0 = a_slC.getD i 0 := by
      unfold a_sl
      rw [List.getD_eq_getElem?_getD, List.getElem?_append_left (show i < a_slC.length from h7), ← List.getD_eq_getElem?_getD]
    rw [e]
    have : ∀ i, i < 7 → a_slC.getD i 0 < 2 ^ 31 := by decide +kernel
    exact this i h7
  · obtain rfl : i = 7 := by omega
    show a_tl xs < 2 ^ 31
    unfold a_tl
    omega
def a_strs : List (String × Nat × String × Nat) := [
  ("WeatherInsurance", 84, "holder ann 200;holder bob 60;holder cid 500;assessor 0;assessor 4;reserve 300;", 0),
  ("WeatherInsuranceLaw", 252, "reserve ", 1),
  ("WeatherInsurance$Setup", 74, "holder", 2),
  ("WeatherInsurance$Setup", 83, "assessor", 3),
  ("WeatherInsurance$Setup", 88, "reserve", 4),
  ("WeatherInsuranceLaw", 264, "holder ", 5),
  ("WeatherInsuranceLaw", 269, "assessor ", 6)]
def a_thr : List (Nat × String) := [
  (301, "the clock is at its limit"), (324, "no claim can be filed for this policy now"),
  (370, "there is nothing with this number"), (375, "a number is outside its range"), (382, "too many policies, or the balance is too small")]
/-- the classes that are thrown -/
def a_xn (k : Nat) : String := match k with
  | 0 => "java/lang/IndexOutOfBoundsException"
  | 1 => "java/lang/IllegalArgumentException"
  | 2 => "java/lang/IllegalStateException"
  | _ => "java/util/NoSuchElementException"
def a_isn (w : Cond) : Bool := match w with
  | .methodLinkNest .. => true
  | .castable .. => true
  | .declares .. => true
  | .sameMethod r o n d => decide (r ≠ "java/lang/invoke/MethodHandle") && decide (r ≠ "java/lang/invoke/VarHandle") && decide (r = o)
  | _ => false
def a_nest : List Cond := lw_tbl.filter a_isn
def a_Amb (xs : Nat → Int32) (L : Nat) (ad : Nat → Nat) (A : Nat → Prop) (U : State) (H : Heap) : Prop :=
  (va_X (ad a_big) L xs U H ∧ ad a_big < H.size ∧ ¬ A (ad a_big)) ∧
  (∃ adV : Nat → Nat, vk_S (a_tn xs) (a_sl xs) (a_sb xs) (fun i => ad (a_big + 1 + i)) adV A U H) ∧
  (∀ q ∈ a_strs, vk_R q.1 q.2.1 q.2.2.1 (ad (a_big + 1 + q.2.2.2)) U) ∧
  (∀ q ∈ a_thr, ∃ sa, vk_R RX8 q.1 q.2 sa U) ∧
  (vx_Zq Bundle.tN "UNASSIGNED_STACK" Bundle.steD A U H ∧ vx_Zq Bundle.tN "SUPPRESSED_SENTINEL" Bundle.listD A U H) ∧
  va_Z "java/lang/String" "COMPACT_STRINGS" "Z" (.int 1) A U H ∧
  va_Zq "jdk/internal/util/Preconditions" "SIOOBE_FORMATTER" "Ljava/util/function/BiFunction;" A U H ∧
  (va_AO RX3 U ∧ va_AOA .int U) ∧
  (∀ w ∈ a_nest, va_Nw w U)
theorem a_X_to {b L : Nat} {xs : Nat → Int32} {U U' : State} {H H' : Heap} (hvm : U.vm.Alike U'.vm) (h : va_X b L xs U H) (e : H'[b]? = H[b]?) : va_X b L xs U' H' := by
  obtain ⟨scr, h1, h2, h3, h4, h5⟩ := h
  exact ⟨scr, e.trans h1, State.isArrayOf_alike hvm h2, h3, h4, h5⟩
theorem va_AOA.moved {t : FieldType} {u U : State} (hvm : u.vm.Alike U.vm) (h : va_AOA t u) : va_AOA t U := by
  obtain ⟨comp, c, k, h1, h2, h3, h4, h5⟩ := arrayOverA_spec h
  obtain ⟨k', hk', he⟩ := hvm.2.2 _ _ h3
  have hi : (U.vm.classes.findIdx? fun (x : Class) => match x.kind with | .array component _ => component == comp | _ => false) = some c := by
    refine (va_idx_bare U.vm comp).symm.trans ?_
    first | rw [hvm.bare_eq] | rw [← hvm.bare_eq]
    exact (va_idx_bare u.vm comp).trans h2
  have hkind : k'.kind = .array comp (.array t) := by rw [he]; exact h4
  have f1 : U.vm.findClass (FieldType.array t).toString = some comp := by rw [hvm.findClass]; exact h1
  have f2 : U.vm.findClass ("[" ++ (FieldType.array t).toString) = some c := by rw [hvm.findClass]; exact h5
  unfold va_AOA Cond.before Cond.holds
  simp only [Cond.value]
  rw [f1, Option.bind_some]
  refine (congrArg (fun o : Option Nat => (o.bind (fun c => (U.vm.classes[c]?).map fun (k : Class) => match k.kind with | .array _ ty => decide (ty = FieldType.array t) && decide (U.vm.findClass ("[" ++ (FieldType.array t).toString) = some c) | _ => false) == some true)) hi).trans ?_
  simp [hk', hkind, f2]
theorem a_Nw_warm {w : Cond} (hw : a_isn w = true) {s U : State} (hW : s.WarmedH U.vm) (h : va_Nw w s) : va_Nw w U := by
  cases w <;> first
    | exact va_Nw.warmM hW h
    | exact va_Nw.warmC hW h
    | exact va_Nw.warmD hW h
    | (simp only [a_isn, Bool.and_eq_true, decide_eq_true_eq] at hw
       exact va_tabs rfl (rfl : (s.setVm U.vm).vm = U.vm) (by rw [Cond.sameMethod_setVm hW.alike ⟨hw.1.1, hw.1.2⟩]; exact h))
    | cases hw
theorem a_Amb.to {xs : Nat → Int32} {L : Nat} {ad ad1 : Nat → Nat} {A B : Nat → Prop} {s U : State} {H H0 : Heap} {locs : List Loc} (h : a_Amb xs L ad A s H0) (hS : va_S A H0 H locs) (hW : s.WarmedH U.vm) (hAB : ∀ q, B q → A q) (hag : ∀ i, a_big ≤ i → ad1 i = ad i) : a_Amb xs L ad1 B U H := by
  obtain ⟨⟨h1, h2, h3⟩, ⟨adV, h4⟩, h5, h6, ⟨h7, h8⟩, h9, h10, ⟨h11, h12⟩, h13⟩ := h
  have ha := hW.alike
  have e0 : ad1 a_big = ad a_big := hag _ (Nat.le_refl _)
  have e1 : (fun i => ad1 (a_big + 1 + i)) = (fun i => ad (a_big + 1 + i)) := by
    funext i
    exact hag _ (by omega)
  refine ⟨⟨?_, ?_, ?_⟩, ⟨adV, ?_⟩, ?_, ?_, ⟨?_, ?_⟩, ?_, ?_, ⟨?_, ?_⟩, ?_⟩
  · rw [e0]; exact a_X_to ha h1 (hS.2.1 _ h2 h3)
  · rw [e0]; exact Nat.lt_of_lt_of_le h2 hS.1
  · rw [e0]; exact fun q => h3 (hAB _ q)
  · rw [e1]; exact (vk_S.narrow (h4.kept hS.2.1) hAB).moved ha
  · intro q hq
    rw [show ad1 (a_big + 1 + q.2.2.2) = ad (a_big + 1 + q.2.2.2) from hag _ (by omega)]
    exact (h5 q hq).warm hW
  · intro q hq
    obtain ⟨sa, z⟩ := h6 q hq
    exact ⟨sa, z.warm hW⟩
  · exact ((h7.kept hS.2.1).narrow hAB).moved ha
  · exact ((h8.kept hS.2.1).narrow hAB).moved ha
  · exact ((h9.kept hS.2.1).narrow hAB).moved ha
  · exact ((h10.kept hS.2.1).narrow hAB).moved ha
  · exact h11.moved ha
  · exact h12.moved ha
  · exact fun w hw => a_Nw_warm (List.mem_filter.mp hw).2 hW (h13 w hw)
end
section
/-! The machine's frame at a place of the abstract machine; an instruction's soundness. -/
def a_cx (p : Program) (s : State) (H0 : Heap) (m : MethodId) (args : Array Value) (meth : Method) (c : Code) (cc : ByteArray) (own : String) (nL : Nat) (A : Nat → Prop) (xs : Nat → Int32) (L : Nat) (ad0 : Nat → Nat) (ini : Bool) : Prop :=
  p.tables.exec = Jvm.exec ∧ c.code = cc ∧ c.maxLocals = nL ∧ s.vm.findClass own = some m.cls ∧ (∀ w ∈ lw_good, w.before args s = true) ∧ (∀ q, H0.size ≤ q → A q) ∧ a_Amb xs L ad0 A s H0 ∧ (ini = true → meth.name = "<init>")
def a_G (p : Program) (l : Launch) (e : Env) (R : Room) (s : State) (H0 : Heap) (m : MethodId) (args : Array Value) (below : List Frame) (meth : Method) (c : Code) (Q : State → Prop) (D : va_G) (A : Nat → Prop) (nL : Nat) (ad0 : Nat → Nat) (n0 : Nat) (pc : Nat) (ls st : List Value) (h : a_H) (cb nb : Nat) : Prop :=
  ∀ (ad : Nat → Nat) (ca : Nat → ClassId) (H : Heap) (locs : List Loc) (cells slots : Nat) (ls' : Array Slot), a_agr n0 ad0 ad → n0 ≤ h.length → a_L ad nL ls ls' → a_oks h.length ls → a_oks h.length st → a_okh h → a_Wd D ad ca h A s H → va_S A H0 H locs → cells + cb ≤ R.cells → slots + nb ≤ R.slots → W p l e R s m args below meth c H locs cells slots Q (F0 m pc ls' (st.map (a_v ad)))
def a_GS (p : Program) (l : Launch) (e : Env) (R : Room) (s : State) (H0 : Heap) (m : MethodId) (args : Array Value) (below : List Frame) (meth : Method) (c : Code) (Q : State → Prop) (D : va_G) (A : Nat → Prop) (nL : Nat) (ad0 : Nat → Nat) (n0 : Nat) (z : a_S) : Prop :=
  a_G p l e R s H0 m args below meth c Q D A nL ad0 n0 z.1 z.2.1 z.2.2.1 z.2.2.2.1 z.2.2.2.2.1 z.2.2.2.2.2
theorem a_good {ws : List Cond} (ps : List Nat) (hp : ws = ps.filterMap (fun i => lw_tbl[i]?)) (h : ws.all goodWord = true) : ∀ w ∈ ws, w ∈ lw_good := by
  intro w hw
  have h1 := List.all_eq_true.mp h w hw
  rw [hp] at hw
  obtain ⟨i, -, hi⟩ := List.mem_filterMap.mp hw
  exact List.mem_filter.mpr ⟨List.mem_of_getElem? hi, h1⟩
theorem a_cw0 : ∀ w ∈ u_ws RX0 TX0 2, w ∈ lw_good := a_good [164, 166] (by decide +kernel) (by decide +kernel)
theorem a_cw1 : ∀ w ∈ u_ws RX1 TX1 12, w ∈ lw_good := a_good [323, 325, 327, 329, 331, 333, 335, 337, 339, 341, 343, 345] (by decide +kernel) (by decide +kernel)
theorem a_cw2 : ∀ w ∈ u_ws RX2 TX2 3, w ∈ lw_good := a_good [269, 271, 273] (by decide +kernel) (by decide +kernel)
theorem a_cw3 : ∀ w ∈ u_ws RX3 TX3 15, w ∈ lw_good := a_good [234, 236, 238, 240, 242, 244, 246, 248, 250, 252, 254, 256, 258, 260, 262] (by decide +kernel) (by decide +kernel)
theorem a_cw4 : ∀ w ∈ u_ws RX4 TX4 4, w ∈ lw_good := a_good [360, 362, 364, 366] (by decide +kernel) (by decide +kernel)
theorem a_cw5 : ∀ w ∈ u_ws RX5 TX5 2, w ∈ lw_good := a_good [151, 153] (by decide +kernel) (by decide +kernel)
theorem a_cw6 : ∀ w ∈ u_ws RX6 TX6 7, w ∈ lw_good := a_good [126, 128, 130, 132, 134, 136, 138] (by decide +kernel) (by decide +kernel)
theorem a_cw7 : ∀ w ∈ u_ws RX7 TX7 8, w ∈ lw_good := a_good [88, 90, 92, 94, 96, 98, 100, 102] (by decide +kernel) (by decide +kernel)
theorem a_cw8 : ∀ w ∈ u_ws RX8 TX8 16, w ∈ lw_good := a_good [556, 558, 560, 562, 564, 566, 568, 570, 572, 574, 576, 578, 580, 582, 584, 586] (by decide +kernel) (by decide +kernel)
theorem a_cw9 : ∀ w ∈ u_ws RL TL 33, w ∈ lw_good := a_good [630, 632, 634, 636, 638, 640, 642, 644, 646, 648, 650, 652, 654, 656, 658, 660, 662, 664, 666, 668, 670, 672, 674, 676, 678, 680, 682, 684, 686, 688, 690, 692, 694] (by decide +kernel) (by decide +kernel)
theorem a_cw {ci : Nat} (h : ci < 10) : ∀ w ∈ u_ws (a_cn ci) (a_T ci) (a_nf ci), w ∈ lw_good := by
  match ci, h with
  | 0, _ => exact a_cw0
  | 1, _ => exact a_cw1
  | 2, _ => exact a_cw2
  | 3, _ => exact a_cw3
  | 4, _ => exact a_cw4
  | 5, _ => exact a_cw5
  | 6, _ => exact a_cw6
  | 7, _ => exact a_cw7
  | 8, _ => exact a_cw8
  | 9, _ => exact a_cw9
section AST
variable {p : Program} {l : Launch} {e : Env} {R : Room} {s : State} {H0 : Heap} {m : MethodId} {args : Array Value} {below : List Frame} {meth : Method} {c : Code} {Q : State → Prop}
variable {D : va_G} {A : Nat → Prop} {nL : Nat} {ad0 : Nat → Nat} {n0 : Nat} {cc : ByteArray} {own : String} {xs : Nat → Int32} {L : Nat} {ini : Bool} {pc : Nat} {ls st : List Value} {h : a_H} {cb nb : Nat} {z : a_S}
theorem a_ldcSW {q : Nat} {tx : String} {index : Nat} {locs : List Loc} {cells slots : Nat} {H : Heap} {ls : Array Slot} {rest : List Value} (hexec : p.tables.exec = Jvm.exec) (hb : c.code = cc) (hown : s.vm.findClass own = some m.cls) (hZ : vk_R own index tx q s) (hdg : decode cc pc = .ok (.ldc_w index, 3))
    (k : W p l e R s m args below meth c H locs cells slots Q (F0 m (pc + 3) ls (.ref q :: rest))) : W p l e R s m args below meth c H locs cells slots Q (F0 m pc ls rest) := by
  intro T hT X
  obtain ⟨t, a1, b1⟩ := k T hT X
  exact ⟨t, X.ldcStringW hexec hown (text := tx) (a := q) hZ.1 hZ.2 (g := F0 m pc ls rest) rfl (by rw [hb]; exact hdg) t a1, b1⟩
theorem a_iconst (X : a_cx p s H0 m args meth c cc own nL A xs L ad0 ini) {n : Int} (hd : decode cc pc = .ok (.iconst n, 1)) {a b : Nat}  (hz : a_ins xs L (.iconst n) a b pc ls st h cb nb = some z) (k : a_GS p l e R s H0 m args below meth c Q D A nL ad0 n0 z) : a_G p l e R s H0 m args below meth c Q D A nL ad0 n0 pc ls st h cb nb := by
  simp only [a_ins] at hz
  cases hz
  intro ad ca H locs cells slots ls' h1 h2 h3 h4 h5 h6 h7 h8 h9 h10
  refine lv_iconst X.1 X.2.1 hd rfl ?_
  exact k ad ca H locs cells slots ls' h1 h2 h3 h4 (a_oks_cons.mpr ⟨a_okv_int _ _, h5⟩) h6 h7 h8 h9 h10
theorem a_bipush (X : a_cx p s H0 m args meth c cc own nL A xs L ad0 ini) {n : Int} (hd : decode cc pc = .ok (.bipush n, 2)) {a b : Nat}  (hz : a_ins xs L (.bipush n) a b pc ls st h cb nb = some z) (k : a_GS p l e R s H0 m args below meth c Q D A nL ad0 n0 z) : a_G p l e R s H0 m args below meth c Q D A nL ad0 n0 pc ls st h cb nb := by
  simp only [a_ins] at hz
  cases hz
  intro ad ca H locs cells slots ls' h1 h2 h3 h4 h5 h6 h7 h8 h9 h10
  refine lv_bipush X.1 X.2.1 hd rfl ?_
  exact k ad ca H locs cells slots ls' h1 h2 h3 h4 (a_oks_cons.mpr ⟨a_okv_int _ _, h5⟩) h6 h7 h8 h9 h10
theorem a_sipush (X : a_cx p s H0 m args meth c cc own nL A xs L ad0 ini) {n : Int} (hd : decode cc pc = .ok (.sipush n, 3)) {a b : Nat}  (hz : a_ins xs L (.sipush n) a b pc ls st h cb nb = some z) (k : a_GS p l e R s H0 m args below meth c Q D A nL ad0 n0 z) : a_G p l e R s H0 m args below meth c Q D A nL ad0 n0 pc ls st h cb nb := by
  simp only [a_ins] at hz
  cases hz
  intro ad ca H locs cells slots ls' h1 h2 h3 h4 h5 h6 h7 h8 h9 h10
  refine lv_sipush X.1 X.2.1 hd rfl ?_
  exact k ad ca H locs cells slots ls' h1 h2 h3 h4 (a_oks_cons.mpr ⟨a_okv_int _ _, h5⟩) h6 h7 h8 h9 h10
theorem a_lconst (X : a_cx p s H0 m args meth c cc own nL A xs L ad0 ini) {n : Fin 2} (hd : decode cc pc = .ok (.lconst n, 1)) {a b : Nat}  (hz : a_ins xs L (.lconst n) a b pc ls st h cb nb = some z) (k : a_GS p l e R s H0 m args below meth c Q D A nL ad0 n0 z) : a_G p l e R s H0 m args below meth c Q D A nL ad0 n0 pc ls st h cb nb := by
  simp only [a_ins] at hz
  cases hz
  intro ad ca H locs cells slots ls' h1 h2 h3 h4 h5 h6 h7 h8 h9 h10
  refine lv_lconst X.1 X.2.1 hd rfl ?_
  exact k ad ca H locs cells slots ls' h1 h2 h3 h4 (a_oks_cons.mpr ⟨a_okv_long _ _, h5⟩) h6 h7 h8 h9 h10
theorem a_fconst (X : a_cx p s H0 m args meth c cc own nL A xs L ad0 ini) {n : Fin 3} (hd : decode cc pc = .ok (.fconst n, 1)) {a b : Nat}  (hz : a_ins xs L (.fconst n) a b pc ls st h cb nb = some z) (k : a_GS p l e R s H0 m args below meth c Q D A nL ad0 n0 z) : a_G p l e R s H0 m args below meth c Q D A nL ad0 n0 pc ls st h cb nb := by
  simp only [a_ins] at hz
  split at hz
  · rename_i hn
    subst hn
    cases hz
    intro ad ca H locs cells slots ls' h1 h2 h3 h4 h5 h6 h7 h8 h9 h10
    refine lv_fconst0 X.1 X.2.1 hd ?_
    exact k ad ca H locs cells slots ls' h1 h2 h3 h4 (a_oks_cons.mpr ⟨a_okv_fl _ _, h5⟩) h6 h7 h8 h9 h10
  · cases hz
theorem a_dconst (X : a_cx p s H0 m args meth c cc own nL A xs L ad0 ini) {n : Fin 2} (hd : decode cc pc = .ok (.dconst n, 1)) {a b : Nat}  (hz : a_ins xs L (.dconst n) a b pc ls st h cb nb = some z) (k : a_GS p l e R s H0 m args below meth c Q D A nL ad0 n0 z) : a_G p l e R s H0 m args below meth c Q D A nL ad0 n0 pc ls st h cb nb := by
  simp only [a_ins] at hz
  split at hz
  · rename_i hn
    subst hn
    cases hz
    intro ad ca H locs cells slots ls' h1 h2 h3 h4 h5 h6 h7 h8 h9 h10
    refine lv_dconst0 X.1 X.2.1 hd ?_
    exact k ad ca H locs cells slots ls' h1 h2 h3 h4 (a_oks_cons.mpr ⟨a_okv_db _ _, h5⟩) h6 h7 h8 h9 h10
  · cases hz
theorem a_ldc (X : a_cx p s H0 m args meth c cc own nL A xs L ad0 ini) {n : Nat} (hd : decode cc pc = .ok (.ldc n, 2)) {a b : Nat} (hs : ∃ tx, (own, n, tx, a) ∈ a_strs) (hz : a_ins xs L (.ldc n) a b pc ls st h cb nb = some z) (k : a_GS p l e R s H0 m args below meth c Q D A nL ad0 n0 z) : a_G p l e R s H0 m args below meth c Q D A nL ad0 n0 pc ls st h cb nb := by
  simp only [a_ins] at hz
  cases hz
  intro ad ca H locs cells slots ls' h1 h2 h3 h4 h5 h6 h7 h8 h9 h10
  have e : ad (a_big + 1 + a) = ad0 (a_big + 1 + a) := h1 _ (Or.inr (by omega))
  obtain ⟨tx, ht⟩ := hs
  have hZ := X.2.2.2.2.2.2.1.2.2.1 _ ht
  refine va_ldcS (q := ad (a_big + 1 + a)) X.1 X.2.1 X.2.2.2.1 (by rw [e]; exact hZ) hd ?_
  exact k ad ca H locs cells slots ls' h1 h2 h3 h4 (a_oks_cons.mpr ⟨fun i q => by cases q; exact Or.inr (by omega), h5⟩) h6 h7 h8 h9 h10
theorem a_ldc_w (X : a_cx p s H0 m args meth c cc own nL A xs L ad0 ini) {n : Nat} (hd : decode cc pc = .ok (.ldc_w n, 3)) {a b : Nat} (hs : ∃ tx, (own, n, tx, a) ∈ a_strs) (hz : a_ins xs L (.ldc_w n) a b pc ls st h cb nb = some z) (k : a_GS p l e R s H0 m args below meth c Q D A nL ad0 n0 z) : a_G p l e R s H0 m args below meth c Q D A nL ad0 n0 pc ls st h cb nb := by
  simp only [a_ins] at hz
  cases hz
  intro ad ca H locs cells slots ls' h1 h2 h3 h4 h5 h6 h7 h8 h9 h10
  have e : ad (a_big + 1 + a) = ad0 (a_big + 1 + a) := h1 _ (Or.inr (by omega))
  obtain ⟨tx, ht⟩ := hs
  have hZ := X.2.2.2.2.2.2.1.2.2.1 _ ht
  refine a_ldcSW (q := ad (a_big + 1 + a)) X.1 X.2.1 X.2.2.2.1 (by rw [e]; exact hZ) hd ?_
  exact k ad ca H locs cells slots ls' h1 h2 h3 h4 (a_oks_cons.mpr ⟨fun i q => by cases q; exact Or.inr (by omega), h5⟩) h6 h7 h8 h9 h10
theorem a_ldc2_w (X : a_cx p s H0 m args meth c cc own nL A xs L ad0 ini) {n : Nat} (hd : decode cc pc = .ok (.ldc2_w n, 3)) {a b : Nat} (hs : Cond.constantLong own n (Int64.ofNat a) ∈ lw_good) (hz : a_ins xs L (.ldc2_w n) a b pc ls st h cb nb = some z) (k : a_GS p l e R s H0 m args below meth c Q D A nL ad0 n0 z) : a_G p l e R s H0 m args below meth c Q D A nL ad0 n0 pc ls st h cb nb := by
  simp only [a_ins] at hz
  cases hz
  intro ad ca H locs cells slots ls' h1 h2 h3 h4 h5 h6 h7 h8 h9 h10
  refine lv_ldc2 X.1 X.2.1 X.2.2.2.1 (X.2.2.2.2.1 _ hs) hd ?_
  exact k ad ca H locs cells slots ls' h1 h2 h3 h4 (a_oks_cons.mpr ⟨a_okv_long _ _, h5⟩) h6 h7 h8 h9 h10
theorem a_iload (X : a_cx p s H0 m args meth c cc own nL A xs L ad0 ini) {n : Nat} (hd : decode cc pc = .ok (.iload n, 2)) {a b : Nat}  (hz : a_ins xs L (.iload n) a b pc ls st h cb nb = some z) (k : a_GS p l e R s H0 m args below meth c Q D A nL ad0 n0 z) : a_G p l e R s H0 m args below meth c Q D A nL ad0 n0 pc ls st h cb nb := by
  simp only [a_ins, a_ldI] at hz
  split at hz
  · rename_i x he
    simp only [Option.map_some, Option.some.injEq] at hz
    subst hz
    intro ad ca H locs cells slots ls' h1 h2 h3 h4 h5 h6 h7 h8 h9 h10
    have hl := h3.2.2.2 _ _ he (fun _ q => by cases q)
    refine lv_iload X.1 X.2.1 hd hl ?_
    exact k ad ca H locs cells slots ls' h1 h2 h3 h4 (a_oks_cons.mpr ⟨a_okv_int _ _, h5⟩) h6 h7 h8 h9 h10
  · simp at hz
theorem a_iload_n (X : a_cx p s H0 m args meth c cc own nL A xs L ad0 ini) {n : Fin 4} (hd : decode cc pc = .ok (.iload_n n, 1)) {a b : Nat}  (hz : a_ins xs L (.iload_n n) a b pc ls st h cb nb = some z) (k : a_GS p l e R s H0 m args below meth c Q D A nL ad0 n0 z) : a_G p l e R s H0 m args below meth c Q D A nL ad0 n0 pc ls st h cb nb := by
  simp only [a_ins, a_ldI] at hz
  split at hz
  · rename_i x he
    simp only [Option.map_some, Option.some.injEq] at hz
    subst hz
    intro ad ca H locs cells slots ls' h1 h2 h3 h4 h5 h6 h7 h8 h9 h10
    have hl := h3.2.2.2 _ _ he (fun _ q => by cases q)
    refine lv_iload_n X.1 X.2.1 hd rfl hl ?_
    exact k ad ca H locs cells slots ls' h1 h2 h3 h4 (a_oks_cons.mpr ⟨a_okv_int _ _, h5⟩) h6 h7 h8 h9 h10
  · simp at hz
theorem a_lload (X : a_cx p s H0 m args meth c cc own nL A xs L ad0 ini) {n : Nat} (hd : decode cc pc = .ok (.lload n, 2)) {a b : Nat}  (hz : a_ins xs L (.lload n) a b pc ls st h cb nb = some z) (k : a_GS p l e R s H0 m args below meth c Q D A nL ad0 n0 z) : a_G p l e R s H0 m args below meth c Q D A nL ad0 n0 pc ls st h cb nb := by
  simp only [a_ins, a_ldL] at hz
  split at hz
  · rename_i x he
    simp only [Option.map_some, Option.some.injEq] at hz
    subst hz
    intro ad ca H locs cells slots ls' h1 h2 h3 h4 h5 h6 h7 h8 h9 h10
    have hl := h3.2.2.2 _ _ he (fun _ q => by cases q)
    refine lv_lload X.1 X.2.1 hd hl ?_
    exact k ad ca H locs cells slots ls' h1 h2 h3 h4 (a_oks_cons.mpr ⟨a_okv_long _ _, h5⟩) h6 h7 h8 h9 h10
  · simp at hz
theorem a_lload_n (X : a_cx p s H0 m args meth c cc own nL A xs L ad0 ini) {n : Fin 4} (hd : decode cc pc = .ok (.lload_n n, 1)) {a b : Nat}  (hz : a_ins xs L (.lload_n n) a b pc ls st h cb nb = some z) (k : a_GS p l e R s H0 m args below meth c Q D A nL ad0 n0 z) : a_G p l e R s H0 m args below meth c Q D A nL ad0 n0 pc ls st h cb nb := by
  simp only [a_ins, a_ldL] at hz
  split at hz
  · rename_i x he
    simp only [Option.map_some, Option.some.injEq] at hz
    subst hz
    intro ad ca H locs cells slots ls' h1 h2 h3 h4 h5 h6 h7 h8 h9 h10
    have hl := h3.2.2.2 _ _ he (fun _ q => by cases q)
    refine lv_lload_n X.1 X.2.1 hd rfl hl ?_
    exact k ad ca H locs cells slots ls' h1 h2 h3 h4 (a_oks_cons.mpr ⟨a_okv_long _ _, h5⟩) h6 h7 h8 h9 h10
  · simp at hz
theorem a_dload (X : a_cx p s H0 m args meth c cc own nL A xs L ad0 ini) {n : Nat} (hd : decode cc pc = .ok (.dload n, 2)) {a b : Nat}  (hz : a_ins xs L (.dload n) a b pc ls st h cb nb = some z) (k : a_GS p l e R s H0 m args below meth c Q D A nL ad0 n0 z) : a_G p l e R s H0 m args below meth c Q D A nL ad0 n0 pc ls st h cb nb := by
  simp only [a_ins, a_ldD] at hz
  split at hz
  · rename_i x he
    simp only [Option.map_some, Option.some.injEq] at hz
    subst hz
    intro ad ca H locs cells slots ls' h1 h2 h3 h4 h5 h6 h7 h8 h9 h10
    have hl := h3.2.2.2 _ _ he (fun _ q => by cases q)
    refine lv_dload X.1 X.2.1 hd hl ?_
    exact k ad ca H locs cells slots ls' h1 h2 h3 h4 (a_oks_cons.mpr ⟨a_okv_db _ _, h5⟩) h6 h7 h8 h9 h10
  · simp at hz
theorem a_dload_n (X : a_cx p s H0 m args meth c cc own nL A xs L ad0 ini) {n : Fin 4} (hd : decode cc pc = .ok (.dload_n n, 1)) {a b : Nat}  (hz : a_ins xs L (.dload_n n) a b pc ls st h cb nb = some z) (k : a_GS p l e R s H0 m args below meth c Q D A nL ad0 n0 z) : a_G p l e R s H0 m args below meth c Q D A nL ad0 n0 pc ls st h cb nb := by
  simp only [a_ins, a_ldD] at hz
  split at hz
  · rename_i x he
    simp only [Option.map_some, Option.some.injEq] at hz
    subst hz
    intro ad ca H locs cells slots ls' h1 h2 h3 h4 h5 h6 h7 h8 h9 h10
    have hl := h3.2.2.2 _ _ he (fun _ q => by cases q)
    refine lv_dload_n X.1 X.2.1 hd rfl hl ?_
    exact k ad ca H locs cells slots ls' h1 h2 h3 h4 (a_oks_cons.mpr ⟨a_okv_db _ _, h5⟩) h6 h7 h8 h9 h10
  · simp at hz
theorem a_aload (X : a_cx p s H0 m args meth c cc own nL A xs L ad0 ini) {n : Nat} (hd : decode cc pc = .ok (.aload n, 2)) {a b : Nat}  (hz : a_ins xs L (.aload n) a b pc ls st h cb nb = some z) (k : a_GS p l e R s H0 m args below meth c Q D A nL ad0 n0 z) : a_G p l e R s H0 m args below meth c Q D A nL ad0 n0 pc ls st h cb nb := by
  simp only [a_ins, a_ldA] at hz
  split at hz
  · rename_i x he
    simp only [Option.map_some, Option.some.injEq] at hz
    subst hz
    intro ad ca H locs cells slots ls' h1 h2 h3 h4 h5 h6 h7 h8 h9 h10
    have hl := h3.2.2.2 _ _ he (fun _ q => by cases q)
    refine lv_aload X.1 X.2.1 hd hl ?_
    exact k ad ca H locs cells slots ls' h1 h2 h3 h4 (a_oks_cons.mpr ⟨a_oks_at h4 he, h5⟩) h6 h7 h8 h9 h10
  · simp at hz
theorem a_aload_n (X : a_cx p s H0 m args meth c cc own nL A xs L ad0 ini) {n : Fin 4} (hd : decode cc pc = .ok (.aload_n n, 1)) {a b : Nat}  (hz : a_ins xs L (.aload_n n) a b pc ls st h cb nb = some z) (k : a_GS p l e R s H0 m args below meth c Q D A nL ad0 n0 z) : a_G p l e R s H0 m args below meth c Q D A nL ad0 n0 pc ls st h cb nb := by
  simp only [a_ins, a_ldA] at hz
  split at hz
  · rename_i x he
    simp only [Option.map_some, Option.some.injEq] at hz
    subst hz
    intro ad ca H locs cells slots ls' h1 h2 h3 h4 h5 h6 h7 h8 h9 h10
    have hl := h3.2.2.2 _ _ he (fun _ q => by cases q)
    refine lv_aload_n X.1 X.2.1 hd rfl hl ?_
    exact k ad ca H locs cells slots ls' h1 h2 h3 h4 (a_oks_cons.mpr ⟨a_oks_at h4 he, h5⟩) h6 h7 h8 h9 h10
  · simp at hz
theorem a_istore (X : a_cx p s H0 m args meth c cc own nL A xs L ad0 ini) {n : Nat} (hd : decode cc pc = .ok (.istore n, 2)) {a b : Nat}  (hz : a_ins xs L (.istore n) a b pc ls st h cb nb = some z) (k : a_GS p l e R s H0 m args below meth c Q D A nL ad0 n0 z) : a_G p l e R s H0 m args below meth c Q D A nL ad0 n0 pc ls st h cb nb := by
  simp only [a_ins] at hz
  split at hz
  · split at hz
    · rename_i hk
      cases hz
      intro ad ca H locs cells slots ls' h1 h2 h3 h4 h5 h6 h7 h8 h9 h10
      rw [a_oks_cons] at h5
      refine lv_istore (nL := nL) (lv := a_as ad ls) X.1 X.2.1 hd h3.has (by rw [← h3.2.2.1]; exact hk) rfl (fun ls2 hl2 => ?_)
      exact k ad ca H locs cells slots ls2 h1 h2 (a_L.sto1 (v := .int _) h3 hk rfl hl2) (a_oks_sto h4 _ h5.1) h5.2 h6 h7 h8 h9 h10
    · cases hz
  · cases hz
theorem a_istore_n (X : a_cx p s H0 m args meth c cc own nL A xs L ad0 ini) {n : Fin 4} (hd : decode cc pc = .ok (.istore_n n, 1)) {a b : Nat}  (hz : a_ins xs L (.istore_n n) a b pc ls st h cb nb = some z) (k : a_GS p l e R s H0 m args below meth c Q D A nL ad0 n0 z) : a_G p l e R s H0 m args below meth c Q D A nL ad0 n0 pc ls st h cb nb := by
  simp only [a_ins] at hz
  split at hz
  · split at hz
    · rename_i hk
      cases hz
      intro ad ca H locs cells slots ls' h1 h2 h3 h4 h5 h6 h7 h8 h9 h10
      rw [a_oks_cons] at h5
      refine lv_istore_n (nL := nL) (lv := a_as ad ls) X.1 X.2.1 hd rfl h3.has (by rw [← h3.2.2.1]; exact hk) rfl (fun ls2 hl2 => ?_)
      exact k ad ca H locs cells slots ls2 h1 h2 (a_L.sto1 (v := .int _) h3 hk rfl hl2) (a_oks_sto h4 _ h5.1) h5.2 h6 h7 h8 h9 h10
    · cases hz
  · cases hz
theorem a_astore (X : a_cx p s H0 m args meth c cc own nL A xs L ad0 ini) {n : Nat} (hd : decode cc pc = .ok (.astore n, 2)) {a b : Nat}  (hz : a_ins xs L (.astore n) a b pc ls st h cb nb = some z) (k : a_GS p l e R s H0 m args below meth c Q D A nL ad0 n0 z) : a_G p l e R s H0 m args below meth c Q D A nL ad0 n0 pc ls st h cb nb := by
  simp only [a_ins] at hz
  split at hz
  · split at hz
    · rename_i hk
      cases hz
      intro ad ca H locs cells slots ls' h1 h2 h3 h4 h5 h6 h7 h8 h9 h10
      rw [a_oks_cons] at h5
      refine lv_astore (nL := nL) (lv := a_as ad ls) X.1 X.2.1 hd h3.has (by rw [← h3.2.2.1]; exact hk) rfl (fun ls2 hl2 => ?_)
      exact k ad ca H locs cells slots ls2 h1 h2 (a_L.sto1 (v := .ref _) h3 hk rfl hl2) (a_oks_sto h4 _ h5.1) h5.2 h6 h7 h8 h9 h10
    · cases hz
  · cases hz
theorem a_astore_n (X : a_cx p s H0 m args meth c cc own nL A xs L ad0 ini) {n : Fin 4} (hd : decode cc pc = .ok (.astore_n n, 1)) {a b : Nat}  (hz : a_ins xs L (.astore_n n) a b pc ls st h cb nb = some z) (k : a_GS p l e R s H0 m args below meth c Q D A nL ad0 n0 z) : a_G p l e R s H0 m args below meth c Q D A nL ad0 n0 pc ls st h cb nb := by
  simp only [a_ins] at hz
  split at hz
  · split at hz
    · rename_i hk
      cases hz
      intro ad ca H locs cells slots ls' h1 h2 h3 h4 h5 h6 h7 h8 h9 h10
      rw [a_oks_cons] at h5
      refine lv_astore_n (nL := nL) (lv := a_as ad ls) X.1 X.2.1 hd rfl h3.has (by rw [← h3.2.2.1]; exact hk) rfl (fun ls2 hl2 => ?_)
      exact k ad ca H locs cells slots ls2 h1 h2 (a_L.sto1 (v := .ref _) h3 hk rfl hl2) (a_oks_sto h4 _ h5.1) h5.2 h6 h7 h8 h9 h10
    · cases hz
  · cases hz
theorem a_dstore (X : a_cx p s H0 m args meth c cc own nL A xs L ad0 ini) {n : Nat} (hd : decode cc pc = .ok (.dstore n, 2)) {a b : Nat}  (hz : a_ins xs L (.dstore n) a b pc ls st h cb nb = some z) (k : a_GS p l e R s H0 m args below meth c Q D A nL ad0 n0 z) : a_G p l e R s H0 m args below meth c Q D A nL ad0 n0 pc ls st h cb nb := by
  simp only [a_ins] at hz
  split at hz
  · split at hz
    · rename_i hk
      cases hz
      intro ad ca H locs cells slots ls' h1 h2 h3 h4 h5 h6 h7 h8 h9 h10
      rw [a_oks_cons] at h5
      refine lv_dstore (nL := nL) (lv := a_as ad ls) X.1 X.2.1 hd h3.has (by rw [← h3.2.2.1]; exact hk) rfl (fun ls2 hl2 => ?_)
      exact k ad ca H locs cells slots ls2 h1 h2 (a_L.sto2 (v := .double _) h3 hk rfl hl2) (a_oks_sto h4 _ h5.1) h5.2 h6 h7 h8 h9 h10
    · cases hz
  · cases hz
theorem a_iinc (X : a_cx p s H0 m args meth c cc own nL A xs L ad0 ini) {n : Nat} {d : Int} (hd : decode cc pc = .ok (.iinc n d, 3)) {a b : Nat}  (hz : a_ins xs L (.iinc n d) a b pc ls st h cb nb = some z) (k : a_GS p l e R s H0 m args below meth c Q D A nL ad0 n0 z) : a_G p l e R s H0 m args below meth c Q D A nL ad0 n0 pc ls st h cb nb := by
  simp only [a_ins] at hz
  split at hz
  · rename_i x he
    cases hz
    intro ad ca H locs cells slots ls' h1 h2 h3 h4 h5 h6 h7 h8 h9 h10
    have hk := (List.getElem?_eq_some_iff.mp he).1
    obtain ⟨j, hj⟩ := List.getElem?_of_mem (a_as_mem (ad := ad) he (fun _ q => by cases q))
    refine lv_iinc (nL := nL) (lv := a_as ad ls) (k := j) X.1 X.2.1 hd h3.has hj rfl (by rw [← h3.2.2.1]; exact hk) rfl (fun ls2 hl2 => ?_)
    exact k ad ca H locs cells slots ls2 h1 h2 (a_L.sto1 (v := .int _) h3 hk rfl hl2) (a_oks_sto h4 _ (a_okv_int _ _)) h5 h6 h7 h8 h9 h10
  · cases hz
theorem a_iadd (X : a_cx p s H0 m args meth c cc own nL A xs L ad0 ini)  (hd : decode cc pc = .ok (.iadd, 1)) {a b : Nat}  (hz : a_ins xs L (.iadd) a b pc ls st h cb nb = some z) (k : a_GS p l e R s H0 m args below meth c Q D A nL ad0 n0 z) : a_G p l e R s H0 m args below meth c Q D A nL ad0 n0 pc ls st h cb nb := by
  simp only [a_ins] at hz
  split at hz
  · cases hz
    intro ad ca H locs cells slots ls' h1 h2 h3 h4 h5 h6 h7 h8 h9 h10
    simp only [a_oks_cons] at h5
    refine lv_iadd X.1 X.2.1 hd ?_
    exact k ad ca H locs cells slots ls' h1 h2 h3 h4 (a_oks_cons.mpr ⟨a_okv_int _ _, h5.2.2⟩) h6 h7 h8 h9 h10
  · cases hz
theorem a_isub (X : a_cx p s H0 m args meth c cc own nL A xs L ad0 ini)  (hd : decode cc pc = .ok (.isub, 1)) {a b : Nat}  (hz : a_ins xs L (.isub) a b pc ls st h cb nb = some z) (k : a_GS p l e R s H0 m args below meth c Q D A nL ad0 n0 z) : a_G p l e R s H0 m args below meth c Q D A nL ad0 n0 pc ls st h cb nb := by
  simp only [a_ins] at hz
  split at hz
  · cases hz
    intro ad ca H locs cells slots ls' h1 h2 h3 h4 h5 h6 h7 h8 h9 h10
    simp only [a_oks_cons] at h5
    refine lv_isub X.1 X.2.1 hd ?_
    exact k ad ca H locs cells slots ls' h1 h2 h3 h4 (a_oks_cons.mpr ⟨a_okv_int _ _, h5.2.2⟩) h6 h7 h8 h9 h10
  · cases hz
theorem a_imul (X : a_cx p s H0 m args meth c cc own nL A xs L ad0 ini)  (hd : decode cc pc = .ok (.imul, 1)) {a b : Nat}  (hz : a_ins xs L (.imul) a b pc ls st h cb nb = some z) (k : a_GS p l e R s H0 m args below meth c Q D A nL ad0 n0 z) : a_G p l e R s H0 m args below meth c Q D A nL ad0 n0 pc ls st h cb nb := by
  simp only [a_ins] at hz
  split at hz
  · cases hz
    intro ad ca H locs cells slots ls' h1 h2 h3 h4 h5 h6 h7 h8 h9 h10
    simp only [a_oks_cons] at h5
    refine lv_imul X.1 X.2.1 hd ?_
    exact k ad ca H locs cells slots ls' h1 h2 h3 h4 (a_oks_cons.mpr ⟨a_okv_int _ _, h5.2.2⟩) h6 h7 h8 h9 h10
  · cases hz
theorem a_iand (X : a_cx p s H0 m args meth c cc own nL A xs L ad0 ini)  (hd : decode cc pc = .ok (.iand, 1)) {a b : Nat}  (hz : a_ins xs L (.iand) a b pc ls st h cb nb = some z) (k : a_GS p l e R s H0 m args below meth c Q D A nL ad0 n0 z) : a_G p l e R s H0 m args below meth c Q D A nL ad0 n0 pc ls st h cb nb := by
  simp only [a_ins] at hz
  split at hz
  · cases hz
    intro ad ca H locs cells slots ls' h1 h2 h3 h4 h5 h6 h7 h8 h9 h10
    simp only [a_oks_cons] at h5
    refine lv_iand X.1 X.2.1 hd ?_
    exact k ad ca H locs cells slots ls' h1 h2 h3 h4 (a_oks_cons.mpr ⟨a_okv_int _ _, h5.2.2⟩) h6 h7 h8 h9 h10
  · cases hz
theorem a_ior (X : a_cx p s H0 m args meth c cc own nL A xs L ad0 ini)  (hd : decode cc pc = .ok (.ior, 1)) {a b : Nat}  (hz : a_ins xs L (.ior) a b pc ls st h cb nb = some z) (k : a_GS p l e R s H0 m args below meth c Q D A nL ad0 n0 z) : a_G p l e R s H0 m args below meth c Q D A nL ad0 n0 pc ls st h cb nb := by
  simp only [a_ins] at hz
  split at hz
  · cases hz
    intro ad ca H locs cells slots ls' h1 h2 h3 h4 h5 h6 h7 h8 h9 h10
    simp only [a_oks_cons] at h5
    refine lv_ior X.1 X.2.1 hd ?_
    exact k ad ca H locs cells slots ls' h1 h2 h3 h4 (a_oks_cons.mpr ⟨a_okv_int _ _, h5.2.2⟩) h6 h7 h8 h9 h10
  · cases hz
theorem a_ishl (X : a_cx p s H0 m args meth c cc own nL A xs L ad0 ini)  (hd : decode cc pc = .ok (.ishl, 1)) {a b : Nat}  (hz : a_ins xs L (.ishl) a b pc ls st h cb nb = some z) (k : a_GS p l e R s H0 m args below meth c Q D A nL ad0 n0 z) : a_G p l e R s H0 m args below meth c Q D A nL ad0 n0 pc ls st h cb nb := by
  simp only [a_ins] at hz
  split at hz
  · cases hz
    intro ad ca H locs cells slots ls' h1 h2 h3 h4 h5 h6 h7 h8 h9 h10
    simp only [a_oks_cons] at h5
    refine lv_ishl X.1 X.2.1 hd ?_
    exact k ad ca H locs cells slots ls' h1 h2 h3 h4 (a_oks_cons.mpr ⟨a_okv_int _ _, h5.2.2⟩) h6 h7 h8 h9 h10
  · cases hz
theorem a_ishr (X : a_cx p s H0 m args meth c cc own nL A xs L ad0 ini)  (hd : decode cc pc = .ok (.ishr, 1)) {a b : Nat}  (hz : a_ins xs L (.ishr) a b pc ls st h cb nb = some z) (k : a_GS p l e R s H0 m args below meth c Q D A nL ad0 n0 z) : a_G p l e R s H0 m args below meth c Q D A nL ad0 n0 pc ls st h cb nb := by
  simp only [a_ins] at hz
  split at hz
  · cases hz
    intro ad ca H locs cells slots ls' h1 h2 h3 h4 h5 h6 h7 h8 h9 h10
    simp only [a_oks_cons] at h5
    refine lv_ishr X.1 X.2.1 hd ?_
    exact k ad ca H locs cells slots ls' h1 h2 h3 h4 (a_oks_cons.mpr ⟨a_okv_int _ _, h5.2.2⟩) h6 h7 h8 h9 h10
  · cases hz
theorem a_iushr (X : a_cx p s H0 m args meth c cc own nL A xs L ad0 ini)  (hd : decode cc pc = .ok (.iushr, 1)) {a b : Nat}  (hz : a_ins xs L (.iushr) a b pc ls st h cb nb = some z) (k : a_GS p l e R s H0 m args below meth c Q D A nL ad0 n0 z) : a_G p l e R s H0 m args below meth c Q D A nL ad0 n0 pc ls st h cb nb := by
  simp only [a_ins] at hz
  split at hz
  · cases hz
    intro ad ca H locs cells slots ls' h1 h2 h3 h4 h5 h6 h7 h8 h9 h10
    simp only [a_oks_cons] at h5
    refine lv_iushr X.1 X.2.1 hd rfl ?_
    exact k ad ca H locs cells slots ls' h1 h2 h3 h4 (a_oks_cons.mpr ⟨a_okv_int _ _, h5.2.2⟩) h6 h7 h8 h9 h10
  · cases hz
theorem a_idiv (X : a_cx p s H0 m args meth c cc own nL A xs L ad0 ini)  (hd : decode cc pc = .ok (.idiv, 1)) {a b : Nat}  (hz : a_ins xs L (.idiv) a b pc ls st h cb nb = some z) (k : a_GS p l e R s H0 m args below meth c Q D A nL ad0 n0 z) : a_G p l e R s H0 m args below meth c Q D A nL ad0 n0 pc ls st h cb nb := by
  simp only [a_ins] at hz
  split at hz
  · split at hz
    · cases hz
    · rename_i hc
      cases hz
      intro ad ca H locs cells slots ls' h1 h2 h3 h4 h5 h6 h7 h8 h9 h10
      simp only [a_oks_cons] at h5
      refine lv_idiv X.1 X.2.1 hd hc ?_
      exact k ad ca H locs cells slots ls' h1 h2 h3 h4 (a_oks_cons.mpr ⟨a_okv_int _ _, h5.2.2⟩) h6 h7 h8 h9 h10
  · cases hz
theorem a_irem (X : a_cx p s H0 m args meth c cc own nL A xs L ad0 ini)  (hd : decode cc pc = .ok (.irem, 1)) {a b : Nat}  (hz : a_ins xs L (.irem) a b pc ls st h cb nb = some z) (k : a_GS p l e R s H0 m args below meth c Q D A nL ad0 n0 z) : a_G p l e R s H0 m args below meth c Q D A nL ad0 n0 pc ls st h cb nb := by
  simp only [a_ins] at hz
  split at hz
  · split at hz
    · cases hz
    · rename_i hc
      cases hz
      intro ad ca H locs cells slots ls' h1 h2 h3 h4 h5 h6 h7 h8 h9 h10
      simp only [a_oks_cons] at h5
      refine lv_irem X.1 X.2.1 hd hc ?_
      exact k ad ca H locs cells slots ls' h1 h2 h3 h4 (a_oks_cons.mpr ⟨a_okv_int _ _, h5.2.2⟩) h6 h7 h8 h9 h10
  · cases hz
theorem a_i2l (X : a_cx p s H0 m args meth c cc own nL A xs L ad0 ini)  (hd : decode cc pc = .ok (.i2l, 1)) {a b : Nat}  (hz : a_ins xs L (.i2l) a b pc ls st h cb nb = some z) (k : a_GS p l e R s H0 m args below meth c Q D A nL ad0 n0 z) : a_G p l e R s H0 m args below meth c Q D A nL ad0 n0 pc ls st h cb nb := by
  simp only [a_ins] at hz
  split at hz
  · cases hz
    intro ad ca H locs cells slots ls' h1 h2 h3 h4 h5 h6 h7 h8 h9 h10
    simp only [a_oks_cons] at h5
    refine lv_i2l X.1 X.2.1 hd rfl ?_
    exact k ad ca H locs cells slots ls' h1 h2 h3 h4 (a_oks_cons.mpr ⟨a_okv_long _ _, h5.2⟩) h6 h7 h8 h9 h10
  · cases hz
theorem a_i2b (X : a_cx p s H0 m args meth c cc own nL A xs L ad0 ini)  (hd : decode cc pc = .ok (.i2b, 1)) {a b : Nat}  (hz : a_ins xs L (.i2b) a b pc ls st h cb nb = some z) (k : a_GS p l e R s H0 m args below meth c Q D A nL ad0 n0 z) : a_G p l e R s H0 m args below meth c Q D A nL ad0 n0 pc ls st h cb nb := by
  simp only [a_ins] at hz
  split at hz
  · cases hz
    intro ad ca H locs cells slots ls' h1 h2 h3 h4 h5 h6 h7 h8 h9 h10
    simp only [a_oks_cons] at h5
    refine lv_i2b X.1 X.2.1 hd rfl ?_
    exact k ad ca H locs cells slots ls' h1 h2 h3 h4 (a_oks_cons.mpr ⟨a_okv_int _ _, h5.2⟩) h6 h7 h8 h9 h10
  · cases hz
theorem a_i2d (X : a_cx p s H0 m args meth c cc own nL A xs L ad0 ini)  (hd : decode cc pc = .ok (.i2d, 1)) {a b : Nat}  (hz : a_ins xs L (.i2d) a b pc ls st h cb nb = some z) (k : a_GS p l e R s H0 m args below meth c Q D A nL ad0 n0 z) : a_G p l e R s H0 m args below meth c Q D A nL ad0 n0 pc ls st h cb nb := by
  simp only [a_ins] at hz
  split at hz
  · cases hz
    intro ad ca H locs cells slots ls' h1 h2 h3 h4 h5 h6 h7 h8 h9 h10
    simp only [a_oks_cons] at h5
    refine lv_i2d X.1 X.2.1 hd ?_
    exact k ad ca H locs cells slots ls' h1 h2 h3 h4 (a_oks_cons.mpr ⟨a_okv_db _ _, h5.2⟩) h6 h7 h8 h9 h10
  · cases hz
theorem a_i2f (X : a_cx p s H0 m args meth c cc own nL A xs L ad0 ini)  (hd : decode cc pc = .ok (.i2f, 1)) {a b : Nat}  (hz : a_ins xs L (.i2f) a b pc ls st h cb nb = some z) (k : a_GS p l e R s H0 m args below meth c Q D A nL ad0 n0 z) : a_G p l e R s H0 m args below meth c Q D A nL ad0 n0 pc ls st h cb nb := by
  simp only [a_ins] at hz
  split at hz
  · cases hz
    intro ad ca H locs cells slots ls' h1 h2 h3 h4 h5 h6 h7 h8 h9 h10
    simp only [a_oks_cons] at h5
    refine lv_i2f X.1 X.2.1 hd ?_
    exact k ad ca H locs cells slots ls' h1 h2 h3 h4 (a_oks_cons.mpr ⟨a_okv_fl _ _, h5.2⟩) h6 h7 h8 h9 h10
  · cases hz
theorem a_f2d (X : a_cx p s H0 m args meth c cc own nL A xs L ad0 ini)  (hd : decode cc pc = .ok (.f2d, 1)) {a b : Nat}  (hz : a_ins xs L (.f2d) a b pc ls st h cb nb = some z) (k : a_GS p l e R s H0 m args below meth c Q D A nL ad0 n0 z) : a_G p l e R s H0 m args below meth c Q D A nL ad0 n0 pc ls st h cb nb := by
  simp only [a_ins] at hz
  split at hz
  · split at hz
    · rename_i hc
      cases hz
      intro ad ca H locs cells slots ls' h1 h2 h3 h4 h5 h6 h7 h8 h9 h10
      simp only [a_oks_cons] at h5
      refine lv_f2d X.1 X.2.1 hd hc ?_
      exact k ad ca H locs cells slots ls' h1 h2 h3 h4 (a_oks_cons.mpr ⟨a_okv_db _ _, h5.2⟩) h6 h7 h8 h9 h10
    · cases hz
  · cases hz
theorem a_ddiv (X : a_cx p s H0 m args meth c cc own nL A xs L ad0 ini)  (hd : decode cc pc = .ok (.ddiv, 1)) {a b : Nat}  (hz : a_ins xs L (.ddiv) a b pc ls st h cb nb = some z) (k : a_GS p l e R s H0 m args below meth c Q D A nL ad0 n0 z) : a_G p l e R s H0 m args below meth c Q D A nL ad0 n0 pc ls st h cb nb := by
  simp only [a_ins] at hz
  split at hz
  · split at hz
    · rename_i hc
      cases hz
      intro ad ca H locs cells slots ls' h1 h2 h3 h4 h5 h6 h7 h8 h9 h10
      simp only [a_oks_cons] at h5
      refine lv_ddiv X.1 X.2.1 hd hc ?_
      exact k ad ca H locs cells slots ls' h1 h2 h3 h4 (a_oks_cons.mpr ⟨a_okv_db _ _, h5.2.2⟩) h6 h7 h8 h9 h10
    · cases hz
  · cases hz
theorem a_fdiv (X : a_cx p s H0 m args meth c cc own nL A xs L ad0 ini)  (hd : decode cc pc = .ok (.fdiv, 1)) {a b : Nat}  (hz : a_ins xs L (.fdiv) a b pc ls st h cb nb = some z) (k : a_GS p l e R s H0 m args below meth c Q D A nL ad0 n0 z) : a_G p l e R s H0 m args below meth c Q D A nL ad0 n0 pc ls st h cb nb := by
  simp only [a_ins] at hz
  split at hz
  · split at hz
    · rename_i hc
      cases hz
      intro ad ca H locs cells slots ls' h1 h2 h3 h4 h5 h6 h7 h8 h9 h10
      simp only [a_oks_cons] at h5
      refine lv_fdiv X.1 X.2.1 hd hc ?_
      exact k ad ca H locs cells slots ls' h1 h2 h3 h4 (a_oks_cons.mpr ⟨a_okv_fl _ _, h5.2.2⟩) h6 h7 h8 h9 h10
    · cases hz
  · cases hz
theorem a_lcmp (X : a_cx p s H0 m args meth c cc own nL A xs L ad0 ini)  (hd : decode cc pc = .ok (.lcmp, 1)) {a b : Nat}  (hz : a_ins xs L (.lcmp) a b pc ls st h cb nb = some z) (k : a_GS p l e R s H0 m args below meth c Q D A nL ad0 n0 z) : a_G p l e R s H0 m args below meth c Q D A nL ad0 n0 pc ls st h cb nb := by
  simp only [a_ins] at hz
  split at hz
  · cases hz
    intro ad ca H locs cells slots ls' h1 h2 h3 h4 h5 h6 h7 h8 h9 h10
    simp only [a_oks_cons] at h5
    refine W.lcmp X.1 X.2.1 hd ?_
    exact k ad ca H locs cells slots ls' h1 h2 h3 h4 (a_oks_cons.mpr ⟨a_okv_int _ _, h5.2.2⟩) h6 h7 h8 h9 h10
  · cases hz
theorem a_dcmp (X : a_cx p s H0 m args meth c cc own nL A xs L ad0 ini) {o9 : CmpOp} (hd : decode cc pc = .ok (.dcmp o9, 1)) {a b : Nat}  (hz : a_ins xs L (.dcmp o9) a b pc ls st h cb nb = some z) (k : a_GS p l e R s H0 m args below meth c Q D A nL ad0 n0 z) : a_G p l e R s H0 m args below meth c Q D A nL ad0 n0 pc ls st h cb nb := by
  simp only [a_ins] at hz
  split at hz
  · cases hz
    intro ad ca H locs cells slots ls' h1 h2 h3 h4 h5 h6 h7 h8 h9 h10
    simp only [a_oks_cons] at h5
    refine lv_dcmp X.1 X.2.1 hd ?_
    exact k ad ca H locs cells slots ls' h1 h2 h3 h4 (a_oks_cons.mpr ⟨a_okv_int _ _, h5.2.2⟩) h6 h7 h8 h9 h10
  · cases hz
theorem a_dup (X : a_cx p s H0 m args meth c cc own nL A xs L ad0 ini)  (hd : decode cc pc = .ok (.dup, 1)) {a b : Nat}  (hz : a_ins xs L (.dup) a b pc ls st h cb nb = some z) (k : a_GS p l e R s H0 m args below meth c Q D A nL ad0 n0 z) : a_G p l e R s H0 m args below meth c Q D A nL ad0 n0 pc ls st h cb nb := by
  simp only [a_ins] at hz
  split at hz
  · split at hz
    · rename_i hc
      cases hz
      intro ad ca H locs cells slots ls' h1 h2 h3 h4 h5 h6 h7 h8 h9 h10
      have h5' := a_oks_cons.mp h5
      refine lv_dup X.1 X.2.1 hd (by rw [a_cat]; exact hc) ?_
      exact k ad ca H locs cells slots ls' h1 h2 h3 h4 (a_oks_cons.mpr ⟨h5'.1, h5⟩) h6 h7 h8 h9 h10
    · cases hz
  · cases hz
theorem a_dup2 (X : a_cx p s H0 m args meth c cc own nL A xs L ad0 ini)  (hd : decode cc pc = .ok (.dup2, 1)) {a b : Nat}  (hz : a_ins xs L (.dup2) a b pc ls st h cb nb = some z) (k : a_GS p l e R s H0 m args below meth c Q D A nL ad0 n0 z) : a_G p l e R s H0 m args below meth c Q D A nL ad0 n0 pc ls st h cb nb := by
  simp only [a_ins] at hz
  split at hz
  · split at hz
    · rename_i hc
      cases hz
      intro ad ca H locs cells slots ls' h1 h2 h3 h4 h5 h6 h7 h8 h9 h10
      have h5' := a_oks_cons.mp h5
      have h5'' := a_oks_cons.mp h5'.2
      refine lv_dup2_11 X.1 X.2.1 hd (by rw [a_cat]; exact hc.1) (by rw [a_cat]; exact hc.2) ?_
      exact k ad ca H locs cells slots ls' h1 h2 h3 h4 (a_oks_cons.mpr ⟨h5'.1, a_oks_cons.mpr ⟨h5''.1, h5⟩⟩) h6 h7 h8 h9 h10
    · cases hz
  · cases hz
theorem a_pop (X : a_cx p s H0 m args meth c cc own nL A xs L ad0 ini)  (hd : decode cc pc = .ok (.pop, 1)) {a b : Nat}  (hz : a_ins xs L (.pop) a b pc ls st h cb nb = some z) (k : a_GS p l e R s H0 m args below meth c Q D A nL ad0 n0 z) : a_G p l e R s H0 m args below meth c Q D A nL ad0 n0 pc ls st h cb nb := by
  simp only [a_ins] at hz
  split at hz
  · split at hz
    · rename_i hc
      cases hz
      intro ad ca H locs cells slots ls' h1 h2 h3 h4 h5 h6 h7 h8 h9 h10
      refine lv_pop X.1 X.2.1 hd (by rw [a_cat]; exact hc) ?_
      exact k ad ca H locs cells slots ls' h1 h2 h3 h4 (a_oks_cons.mp h5).2 h6 h7 h8 h9 h10
    · cases hz
  · cases hz
theorem a_ifCond (X : a_cx p s H0 m args meth c cc own nL A xs L ad0 ini) {cnd : ClassFile.Cond} {off : Int} (hd : decode cc pc = .ok (.ifCond cnd off, 3)) {a b : Nat}  (hz : a_ins xs L (.ifCond cnd off) a b pc ls st h cb nb = some z) (k : a_GS p l e R s H0 m args below meth c Q D A nL ad0 n0 z) : a_G p l e R s H0 m args below meth c Q D A nL ad0 n0 pc ls st h cb nb := by
  simp only [a_ins] at hz
  split at hz
  · split at hz
    · rename_i hnn
      cases hz
      intro ad ca H locs cells slots ls' h1 h2 h3 h4 h5 h6 h7 h8 h9 h10
      simp only [a_oks_cons] at h5
      have ht : (pc : Int) + off = ((((pc : Int) + off).toNat : Nat) : Int) := (Int.toNat_of_nonneg hnn).symm
      cases cnd
      · refine lv_if_eq X.1 X.2.1 hd ht (fun hc => ?_) (fun hc => ?_)
        · rw [show a_c0 .eq _ = true from decide_eq_true hc] at k
          exact k ad ca H locs cells slots ls' h1 h2 h3 h4 h5.2 h6 h7 h8 h9 h10
        · rw [show a_c0 .eq _ = false from decide_eq_false hc] at k
          exact k ad ca H locs cells slots ls' h1 h2 h3 h4 h5.2 h6 h7 h8 h9 h10
      · refine lv_if_ne X.1 X.2.1 hd ht (fun hc => ?_) (fun hc => ?_)
        · rw [show a_c0 .ne _ = true from decide_eq_true hc] at k
          exact k ad ca H locs cells slots ls' h1 h2 h3 h4 h5.2 h6 h7 h8 h9 h10
        · rw [show a_c0 .ne _ = false from decide_eq_false (fun q => q hc)] at k
          exact k ad ca H locs cells slots ls' h1 h2 h3 h4 h5.2 h6 h7 h8 h9 h10
      · refine lv_if_lt X.1 X.2.1 hd ht (fun hc => ?_) (fun hc => ?_)
        · rw [show a_c0 .lt _ = true from decide_eq_true hc] at k
          exact k ad ca H locs cells slots ls' h1 h2 h3 h4 h5.2 h6 h7 h8 h9 h10
        · rw [show a_c0 .lt _ = false from decide_eq_false hc] at k
          exact k ad ca H locs cells slots ls' h1 h2 h3 h4 h5.2 h6 h7 h8 h9 h10
      · refine lv_if_ge X.1 X.2.1 hd ht (fun hc => ?_) (fun hc => ?_)
        · rw [show a_c0 .ge _ = true from decide_eq_true hc] at k
          exact k ad ca H locs cells slots ls' h1 h2 h3 h4 h5.2 h6 h7 h8 h9 h10
        · rw [show a_c0 .ge _ = false from decide_eq_false hc] at k
          exact k ad ca H locs cells slots ls' h1 h2 h3 h4 h5.2 h6 h7 h8 h9 h10
      · refine lv_if_gt X.1 X.2.1 hd ht (fun hc => ?_) (fun hc => ?_)
        · rw [show a_c0 .gt _ = true from decide_eq_true hc] at k
          exact k ad ca H locs cells slots ls' h1 h2 h3 h4 h5.2 h6 h7 h8 h9 h10
        · rw [show a_c0 .gt _ = false from decide_eq_false hc] at k
          exact k ad ca H locs cells slots ls' h1 h2 h3 h4 h5.2 h6 h7 h8 h9 h10
      · refine lv_if_le X.1 X.2.1 hd ht (fun hc => ?_) (fun hc => ?_)
        · rw [show a_c0 .le _ = true from decide_eq_true hc] at k
          exact k ad ca H locs cells slots ls' h1 h2 h3 h4 h5.2 h6 h7 h8 h9 h10
        · rw [show a_c0 .le _ = false from decide_eq_false hc] at k
          exact k ad ca H locs cells slots ls' h1 h2 h3 h4 h5.2 h6 h7 h8 h9 h10
    · cases hz
  · cases hz
theorem a_if_icmp (X : a_cx p s H0 m args meth c cc own nL A xs L ad0 ini) {cnd : ClassFile.Cond} {off : Int} (hd : decode cc pc = .ok (.if_icmp cnd off, 3)) {a b : Nat}  (hz : a_ins xs L (.if_icmp cnd off) a b pc ls st h cb nb = some z) (k : a_GS p l e R s H0 m args below meth c Q D A nL ad0 n0 z) : a_G p l e R s H0 m args below meth c Q D A nL ad0 n0 pc ls st h cb nb := by
  simp only [a_ins] at hz
  split at hz
  · split at hz
    · rename_i hnn
      cases hz
      intro ad ca H locs cells slots ls' h1 h2 h3 h4 h5 h6 h7 h8 h9 h10
      simp only [a_oks_cons] at h5
      have ht : (pc : Int) + off = ((((pc : Int) + off).toNat : Nat) : Int) := (Int.toNat_of_nonneg hnn).symm
      cases cnd
      · refine lv_icmp_eq X.1 X.2.1 hd ht (fun hc => ?_) (fun hc => ?_)
        · rw [show a_c2 .eq _ _ = true from decide_eq_true hc] at k
          exact k ad ca H locs cells slots ls' h1 h2 h3 h4 h5.2.2 h6 h7 h8 h9 h10
        · rw [show a_c2 .eq _ _ = false from decide_eq_false hc] at k
          exact k ad ca H locs cells slots ls' h1 h2 h3 h4 h5.2.2 h6 h7 h8 h9 h10
      · refine lv_icmp_ne X.1 X.2.1 hd ht (fun hc => ?_) (fun hc => ?_)
        · rw [show a_c2 .ne _ _ = true from decide_eq_true hc] at k
          exact k ad ca H locs cells slots ls' h1 h2 h3 h4 h5.2.2 h6 h7 h8 h9 h10
        · rw [show a_c2 .ne _ _ = false from decide_eq_false (fun q => q hc)] at k
          exact k ad ca H locs cells slots ls' h1 h2 h3 h4 h5.2.2 h6 h7 h8 h9 h10
      · refine lv_icmp_lt X.1 X.2.1 hd ht (fun hc => ?_) (fun hc => ?_)
        · rw [show a_c2 .lt _ _ = true from decide_eq_true hc] at k
          exact k ad ca H locs cells slots ls' h1 h2 h3 h4 h5.2.2 h6 h7 h8 h9 h10
        · rw [show a_c2 .lt _ _ = false from decide_eq_false hc] at k
          exact k ad ca H locs cells slots ls' h1 h2 h3 h4 h5.2.2 h6 h7 h8 h9 h10
      · refine lv_icmp_ge X.1 X.2.1 hd ht (fun hc => ?_) (fun hc => ?_)
        · rw [show a_c2 .ge _ _ = true from decide_eq_true hc] at k
          exact k ad ca H locs cells slots ls' h1 h2 h3 h4 h5.2.2 h6 h7 h8 h9 h10
        · rw [show a_c2 .ge _ _ = false from decide_eq_false hc] at k
          exact k ad ca H locs cells slots ls' h1 h2 h3 h4 h5.2.2 h6 h7 h8 h9 h10
      · refine lv_icmp_gt X.1 X.2.1 hd ht (fun hc => ?_) (fun hc => ?_)
        · rw [show a_c2 .gt _ _ = true from decide_eq_true hc] at k
          exact k ad ca H locs cells slots ls' h1 h2 h3 h4 h5.2.2 h6 h7 h8 h9 h10
        · rw [show a_c2 .gt _ _ = false from decide_eq_false hc] at k
          exact k ad ca H locs cells slots ls' h1 h2 h3 h4 h5.2.2 h6 h7 h8 h9 h10
      · refine lv_icmp_le X.1 X.2.1 hd ht (fun hc => ?_) (fun hc => ?_)
        · rw [show a_c2 .le _ _ = true from decide_eq_true hc] at k
          exact k ad ca H locs cells slots ls' h1 h2 h3 h4 h5.2.2 h6 h7 h8 h9 h10
        · rw [show a_c2 .le _ _ = false from decide_eq_false hc] at k
          exact k ad ca H locs cells slots ls' h1 h2 h3 h4 h5.2.2 h6 h7 h8 h9 h10
    · cases hz
  · cases hz
theorem a_goto (X : a_cx p s H0 m args meth c cc own nL A xs L ad0 ini) {off : Int} (hd : decode cc pc = .ok (.goto off, 3)) {a b : Nat}  (hz : a_ins xs L (.goto off) a b pc ls st h cb nb = some z) (k : a_GS p l e R s H0 m args below meth c Q D A nL ad0 n0 z) : a_G p l e R s H0 m args below meth c Q D A nL ad0 n0 pc ls st h cb nb := by
  simp only [a_ins] at hz
  split at hz
  · rename_i hnn
    cases hz
    intro ad ca H locs cells slots ls' h1 h2 h3 h4 h5 h6 h7 h8 h9 h10
    refine lv_goto X.1 X.2.1 hd (Int.toNat_of_nonneg hnn).symm ?_
    exact k ad ca H locs cells slots ls' h1 h2 h3 h4 h5 h6 h7 h8 h9 h10
  · cases hz
theorem a_tsw (X : a_cx p s H0 m args meth c cc own nL A xs L ad0 ini) {dflt lo hi : Int} {offs : Array Int} {len : Nat} (hd : decode cc pc = .ok (.tableswitch dflt lo hi offs, len)) {a b : Nat}  (hz : a_ins xs L (.tableswitch dflt lo hi offs) a b pc ls st h cb nb = some z) (k : a_GS p l e R s H0 m args below meth c Q D A nL ad0 n0 z) : a_G p l e R s H0 m args below meth c Q D A nL ad0 n0 pc ls st h cb nb := by
  simp only [a_ins] at hz
  split at hz
  · split at hz
    · rename_i hr
      split at hz
      · rename_i hnn
        cases hz
        intro ad ca H locs cells slots ls' h1 h2 h3 h4 h5 h6 h7 h8 h9 h10
        refine lv_tableOut X.1 X.2.1 hd hr (Int.toNat_of_nonneg hnn).symm ?_
        exact k ad ca H locs cells slots ls' h1 h2 h3 h4 (a_oks_cons.mp h5).2 h6 h7 h8 h9 h10
      · cases hz
    · rename_i hr
      split at hz
      · rename_i off ho
        split at hz
        · rename_i hnn
          cases hz
          intro ad ca H locs cells slots ls' h1 h2 h3 h4 h5 h6 h7 h8 h9 h10
          refine lv_tableIn X.1 X.2.1 hd (fun q => hr (Or.inl q)) (fun q => hr (Or.inr q)) ho (Int.toNat_of_nonneg hnn).symm ?_
          exact k ad ca H locs cells slots ls' h1 h2 h3 h4 (a_oks_cons.mp h5).2 h6 h7 h8 h9 h10
        · cases hz
      · cases hz
  · cases hz
end AST
end
section
/-! The instructions that read and write the heap. -/
theorem a_okc_at {h : a_H} (hh : a_okh h) {o ci : Nat} {fs : List Value} (e : h[o]? = some (.inr (ci, fs))) {k : Nat} {v : Value} (hv : fs[k]? = some v) : a_okv h.length v := hh o _ e v (List.mem_of_getElem? hv)
theorem a_agr_trans {n m : Nat} (hnm : n ≤ m) {f g k : Nat → Nat} (h1 : a_agr n f g) (h2 : a_agr m g k) : a_agr n f k := fun i hi => by
  rw [h2 i (hi.imp (fun q => Nat.lt_of_lt_of_le q hnm) id), h1 i hi]
theorem a_v_rf (ad : Nat → Nat) (r : Option Nat) : a_v ad (va_rf r) = va_rf (r.map ad) := by cases r <;> rfl
theorem a_v_def (ad : Nat → Nat) (t : FieldType) : a_v ad (defaultValue t) = defaultValue t := by cases t <;> rfl
theorem a_okv_def (n : Nat) (t : FieldType) : a_okv n (defaultValue t) := fun i e => by cases t <;> cases e
theorem a_Wd.push {D : va_G} {ad : Nat → Nat} {ca : Nat → ClassId} {h : a_H} {A : Nat → Prop} {s : State} {H H1 : Heap} (w : a_Wd D ad ca h A s H) (hh : a_okh h) (hn : h.length < a_big) {c : a_C} (hc : a_okc h.length c) {q : Nat} {cA : ClassId}
    (hP : va_P D vwCl (a_ws ad ca h ++ [(q, a_e ad cA c)]) H1) (hD : va_D A (a_ws ad ca h ++ [(q, a_e ad cA c)])) (hty : ∀ x, c = .inl x → ArrOfT s cA x.1 ∧ va_RA s cA x.1) : a_Wd D (va_up ad h.length q) (va_up ca h.length cA) (h ++ [c]) A s H1 := by
  rw [← a_ws_push hh hn hc] at hP hD
  refine ⟨hP, hD, w.2.2.1, fun j x hj => ?_⟩
  by_cases hl : j < h.length
  · rw [List.getElem?_append_left hl] at hj
    have : j ≠ h.length := Nat.ne_of_lt hl
    simp only [va_up, this, if_false]
    exact w.2.2.2 j x hj
  · rw [List.getElem?_append_right (Nat.not_lt.mp hl)] at hj
    have h1 : j - h.length < 1 := (List.getElem?_eq_some_iff.mp hj).1
    have h2 : j = h.length := by omega
    subst h2
    rw [Nat.sub_self] at hj
    cases hj
    simp only [va_up, if_true]
    exact hty x rfl
section AHP
variable {p : Program} {l : Launch} {e : Env} {R : Room} {s : State} {H0 : Heap} {m : MethodId} {args : Array Value} {below : List Frame} {meth : Method} {c : Code} {Q : State → Prop}
variable {D : va_G} {A : Nat → Prop} {nL : Nat} {ad0 : Nat → Nat} {n0 : Nat} {cc : ByteArray} {own : String} {xs : Nat → Int32} {L : Nat} {ini : Bool} {pc : Nat} {ls st : List Value} {h : a_H} {cb nb : Nat} {z : a_S}
theorem a_getfield (X : a_cx p s H0 m args meth c cc own nL A xs L ad0 ini) {n : Nat} (hd : decode cc pc = .ok (.getfield n, 3)) {a b : Nat} (hs : a < 10 ∧ b < a_nf a ∧ Cond.fieldLink own n (a_T a b).1 (a_T a b).2.1 (a_T a b).2.2.1 ∈ lw_good)
    (hz : a_ins xs L (.getfield n) a b pc ls st h cb nb = some z) (k : a_GS p l e R s H0 m args below meth c Q D A nL ad0 n0 z) : a_G p l e R s H0 m args below meth c Q D A nL ad0 n0 pc ls st h cb nb := by
  simp only [a_ins, a_gf] at hz
  split at hz
  · rename_i o r
    split at hz
    · rename_i cj fs he
      split at hz
      · rename_i hci
        subst hci
        cases hv : fs[b]? with
        | none => simp [hv] at hz
        | some v =>
          simp only [hv, Option.map_some, Option.some.injEq] at hz
          subst hz
          intro ad ca H locs cells slots ls' h1 h2 h3 h4 h5 h6 h7 h8 h9 h10
          rw [a_oks_cons] at h5
          refine va_get (D := D) (ci := cj) (C := a_cn cj) (T := a_T cj) (N := a_nf cj) (v := a_v ad v) X.1 X.2.1 X.2.2.2.2.1 (a_cw hs.1) X.2.2.2.1 h7.2.2.1 h7.1 o (a_ws_get he) (a_cl hs.1) b hs.2.1 (X.2.2.2.2.1 _ hs.2.2) (fun _ h9 => h9) (by rw [List.getElem?_map, hv]; rfl) hd ?_
          exact k ad ca H locs cells slots ls' h1 h2 h3 h4 (a_oks_cons.mpr ⟨a_okc_at h6 he hv, h5.2⟩) h6 h7 h8 h9 h10
      · simp at hz
    · simp at hz
  · cases hz
theorem a_putfield (X : a_cx p s H0 m args meth c cc own nL A xs L ad0 ini) {n : Nat} (hd : decode cc pc = .ok (.putfield n, 3)) {a b : Nat} (hs : (a < 10 ∧ b < a_nf a ∧ Cond.fieldLink own n (a_T a b).1 (a_T a b).2.1 (a_T a b).2.2.1 ∈ lw_good) ∧ ((a_T a b).2.2.2 = false ∨ ((a_T a b).2.2.2 = true ∧ ini = true ∧ (a_T a b).1 = own)))
    (hz : a_ins xs L (.putfield n) a b pc ls st h cb nb = some z) (k : a_GS p l e R s H0 m args below meth c Q D A nL ad0 n0 z) : a_G p l e R s H0 m args below meth c Q D A nL ad0 n0 pc ls st h cb nb := by
  simp only [a_ins, a_pf] at hz
  split at hz
  · rename_i v o r
    split at hz
    · rename_i cj fs he
      split at hz
      · rename_i hci
        obtain ⟨rfl, hl, hn, hf⟩ := hci
        simp only [Option.map_some, Option.some.injEq] at hz
        subst hz
        intro ad ca H locs cells slots ls' h1 h2 h3 h4 h5 h6 h7 h8 h9 h10
        simp only [a_oks_cons] at h5
        have hok : a_okc h.length (.inr (cj, fs.set b v)) := fun w hw => a_oks_set (l := fs) (fun u hu => h6 o _ he u hu) b h5.1 w hw
        have go : ∀ (H1 : Heap) (locs1 : List Loc), va_P D vwCl ((a_ws ad ca h).set o (ad o, .inr (cj, (fs.map (a_v ad)).set b (a_v ad v)))) H1 → va_D A ((a_ws ad ca h).set o (ad o, .inr (cj, (fs.map (a_v ad)).set b (a_v ad v)))) → va_S A H0 H1 locs1 → W p l e R s m args below meth c H1 locs1 cells slots Q (F0 m (pc + 3) ls' (r.map (a_v ad))) := by
          intro H1 locs1 hP hD hS
          rw [← List.map_set] at hP hD
          have w1 : a_Wd D ad ca (h.set o (.inr (cj, fs.set b v))) A s H1 := h7.set hP hD (fun x q => by cases q)
          exact k ad ca H1 locs1 cells slots ls' h1 (by rw [List.length_set]; exact h2) h3 (by rw [List.length_set]; exact h4) (by rw [List.length_set]; exact h5.2.2) (a_okh_set h6 o hok) w1 hS h9 h10
        rcases hs.2 with hfin | ⟨hfin, hini, hdecl⟩
        · exact va_put (D := D) (ci := cj) (C := a_cn cj) (T := a_T cj) (N := a_nf cj) (v := a_v ad v) (ty := a_ty cj b) X.1 X.2.1 X.2.2.2.2.1 (a_cw hs.1.1) (a_ty cj) (a_ty_ok hs.1.1) (a_nm_ok hs.1.1) X.2.2.2.1 h7.2.2.1 h7.1 h7.2.1 h8 o (a_ws_get he) (a_cl hs.1.1) b hs.1.2.1 (X.2.2.2.2.1 _ hs.1.2.2) (fun _ h9 => h9) hfin (a_ty_ok hs.1.1 b hs.1.2.1) (a_nar ad _ v hn) (by rw [a_fit]; exact hf) (by rw [List.length_map]; exact hl) hd go
        · exact va_putF (D := D) (ci := cj) (C := a_cn cj) (T := a_T cj) (N := a_nf cj) (v := a_v ad v) (ty := a_ty cj b) X.1 X.2.1 X.2.2.2.2.1 (a_cw hs.1.1) (a_ty cj) (a_ty_ok hs.1.1) (a_nm_ok hs.1.1) X.2.2.2.1 h7.2.2.1 h7.1 h7.2.1 h8 o (a_ws_get he) (a_cl hs.1.1) b hs.1.2.1 (X.2.2.2.2.1 _ hs.1.2.2) (fun _ h9 => h9) hfin (X.2.2.2.2.2.2.2 hini) hdecl (a_ty_ok hs.1.1 b hs.1.2.1) (a_nar ad _ v hn) (by rw [a_fit]; exact hf) (by rw [List.length_map]; exact hl) hd go
      · simp at hz
    · simp at hz
  · cases hz
/-- what a load of an element gives -/
theorem a_load (X : a_cx p s H0 m args meth c cc own nL A xs L ad0 ini) {o : Nat} {j : Int32} {kd : Nat} {v : Value} {r : List Value} {i : Instr} (hd : decode cc pc = .ok (i, 1)) (hi : (kd = 0 ∧ i = .iaload) ∨ (kd = 1 ∧ i = .baload) ∨ (kd = 2 ∧ i = .laload) ∨ (kd = 3 ∧ i = .aaload)) (hr : a_rd xs L h o j kd = some v)
    (k : a_G p l e R s H0 m args below meth c Q D A nL ad0 n0 (pc + 1) ls (v :: r) h cb nb) : a_G p l e R s H0 m args below meth c Q D A nL ad0 n0 pc ls (.int j :: .ref o :: r) h cb nb := by
  intro ad ca H locs cells slots ls' h1 h2 h3 h4 h5 h6 h7 h8 h9 h10
  simp only [a_oks_cons] at h5
  simp only [a_rd] at hr
  split at hr
  · rename_i ho
    subst ho
    split at hr
    · rename_i hin
      obtain ⟨hk, hin⟩ := hin
      subst hk
      cases hr
      have hii : i = .iaload := by rcases hi with q | q | q | q <;> first | exact q.2 | exact absurd q.1 (by decide)
      subst hii
      obtain ⟨⟨hX, hbl, hbA⟩, -⟩ := X.2.2.2.2.2.2.1
      have e9 : ad a_big = ad0 a_big := h1 _ (Or.inr (Nat.le_refl _))
      have kk := k ad ca H locs cells slots ls' h1 h2 h3 h4 (a_oks_cons.mpr ⟨a_okv_int _ _, h5.2.2⟩) h6 h7 h8 h9 h10
      show W p l e R s m args below meth c H locs cells slots Q (F0 m pc ls' (.int j :: .ref (ad a_big) :: r.map (a_v ad)))
      rw [e9]
      exact va_sld X.1 X.2.1 hX hbl hbA h8 hin hd kk
    · cases hr
  · split at hr
    · rename_i ty n f he
      split at hr
      · rename_i hc
        obtain ⟨hin, hc⟩ := hc
        cases hr
        have kk := k ad ca H locs cells slots ls' h1 h2 h3 h4 (a_oks_cons.mpr ⟨a_okv_int _ _, h5.2.2⟩) h6 h7 h8 h9 h10
        rcases hc with ⟨rfl, rfl⟩ | ⟨rfl, rfl | rfl⟩
        · have hii : i = .iaload := by rcases hi with q | q | q | q <;> first | exact q.2 | exact absurd q.1 (by decide)
          subst hii
          exact va_iald X.1 X.2.1 (h7.K he) h7.1 o 0 (a_ws_get he) rfl hin hd kk
        · have hii : i = .baload := by rcases hi with q | q | q | q <;> first | exact q.2 | exact absurd q.1 (by decide)
          subst hii
          exact va_bald X.1 X.2.1 (h7.K he) h7.1 o 0 (a_ws_get he) rfl hin hd kk
        · have hii : i = .baload := by rcases hi with q | q | q | q <;> first | exact q.2 | exact absurd q.1 (by decide)
          subst hii
          exact va_zald X.1 X.2.1 (h7.K he) h7.1 o 0 (a_ws_get he) rfl hin hd kk
      · cases hr
    · rename_i ty n f he
      split at hr
      · rename_i hc
        obtain ⟨hin, rfl, rfl⟩ := hc
        cases hr
        have kk := k ad ca H locs cells slots ls' h1 h2 h3 h4 (a_oks_cons.mpr ⟨a_okv_long _ _, h5.2.2⟩) h6 h7 h8 h9 h10
        have hii : i = .laload := by rcases hi with q | q | q | q <;> first | exact q.2 | exact absurd q.1 (by decide)
        subst hii
        exact va_lald X.1 X.2.1 (h7.K he) h7.1 o 0 (a_ws_get he) rfl hin hd kk
      · cases hr
    · rename_i ty n f he
      split at hr
      · rename_i hc
        obtain ⟨hin, rfl, hty⟩ := hc
        cases hr
        have hok : a_okv h.length (va_rf (f j.toNatClampNeg)) := by
          cases hf : f j.toNatClampNeg with
          | none => exact a_okv_null _
          | some i9 => intro i8 e8; cases e8; exact h6 o _ he f rfl _ _ hf
        have kk := k ad ca H locs cells slots ls' h1 h2 h3 h4 (a_oks_cons.mpr ⟨hok, h5.2.2⟩) h6 h7 h8 h9 h10
        have hii : i = .aaload := by rcases hi with q | q | q | q <;> first | exact q.2 | exact absurd q.1 (by decide)
        subst hii
        have hlt : j.toNatClampNeg < n := Nat.not_le.mp fun q => hin (Or.inr q)
        have hcell : H[ad o]? = some (arrV (ca o) n (fun i => va_rf ((f i).map ad))) := h7.1 o _ (a_ws_get he)
        have kk2 : W p l e R s m args below meth c H locs cells slots Q (F0 m (pc + 1) ls' (va_rf ((f j.toNatClampNeg).map ad) :: r.map (a_v ad))) := by
          rw [← a_v_rf]
          exact kk
        exact W.aald (v := va_rf ((f j.toNatClampNeg).map ad)) (ty := ty) X.1 X.2.1 hcell ((h7.2.2.2 o _ he).1 n (fun i => va_rf ((f i).map ad))) hty (fun q => by cases q) (by show ¬ (j < 0 ∨ (arrV _ _ _).slots.size ≤ _); rw [arrV_size]; exact hin) (by show (arrV _ _ _).slots[_]? = _; rw [arrV_read _ _ hlt]) rfl rfl hd kk2
      · cases hr
    · cases hr
theorem a_store (X : a_cx p s H0 m args meth c cc own nL A xs L ad0 ini) {o : Nat} {j : Int32} {kd : Nat} {v : Value} {h' : a_H} {r : List Value} {i : Instr} (hd : decode cc pc = .ok (i, 1)) (hi : (kd = 0 ∧ i = .iastore) ∨ (kd = 1 ∧ i = .bastore) ∨ (kd = 2 ∧ i = .lastore)) (hr : a_wr h o j v kd = some h')
    (k : a_G p l e R s H0 m args below meth c Q D A nL ad0 n0 (pc + 1) ls r h' cb nb) : a_G p l e R s H0 m args below meth c Q D A nL ad0 n0 pc ls (v :: .int j :: .ref o :: r) h cb nb := by
  intro ad ca H locs cells slots ls' h1 h2 h3 h4 h5 h6 h7 h8 h9 h10
  simp only [a_oks_cons] at h5
  simp only [a_wr] at hr
  have fin : ∀ (ty : FieldType) (n : Nat) (x0 x1 : (Nat → Int32) ⊕ (Nat → Int64) ⊕ (Nat → UInt32) ⊕ (Nat → UInt64) ⊕ (Nat → Option Nat)), h[o]? = some (.inl (ty, n, x0)) → h' = h.set o (.inl (ty, n, x1)) → (∀ f, x1 ≠ .inr (.inr (.inr (.inr f)))) →
      ∀ (H1 : Heap) (locs1 : List Loc), va_P D vwCl ((a_ws ad ca h).set o (ad o, .inl (ca o, n, x1))) H1 → va_D A ((a_ws ad ca h).set o (ad o, .inl (ca o, n, x1))) → va_S A H0 H1 locs1 → W p l e R s m args below meth c H1 locs1 cells slots Q (F0 m (pc + 1) ls' (r.map (a_v ad))) := by
    intro ty n x0 x1 he eh hx H1 locs1 hP hD hS
    subst eh
    have ek : a_k ad x1 = x1 := by rcases x1 with f | f | f | f | f <;> first | rfl | exact absurd rfl (hx f)
    have w1 : a_Wd D ad ca (h.set o (.inl (ty, n, x1))) A s H1 := h7.set (by show va_P D vwCl ((a_ws ad ca h).set o (ad o, .inl (ca o, n, a_k ad x1))) H1; rw [ek]; exact hP) (by show va_D A ((a_ws ad ca h).set o (ad o, .inl (ca o, n, a_k ad x1))); rw [ek]; exact hD) (fun x q => by cases q; exact ⟨_, he, rfl⟩)
    exact k ad ca H1 locs1 cells slots ls' h1 (by rw [List.length_set]; exact h2) h3 (by rw [List.length_set]; exact h4) (by rw [List.length_set]; exact h5.2.2.2) (a_okh_set h6 o (fun f e9 => absurd e9 (hx f))) w1 hS h9 h10
  split at hr
  · rename_i ty n f x he
    split at hr
    · rename_i hin
      split at hr
      · rename_i hc
        obtain ⟨rfl, rfl⟩ := hc
        cases hr
        have hii : i = .iastore := by rcases hi with q | q | q <;> first | exact q.2 | exact absurd q.1 (by decide)
        subst hii
        exact va_iast X.1 X.2.1 (h7.K he) h7.1 h7.2.1 h8 o 0 (a_ws_get he) rfl hin hd (fin _ _ _ _ he rfl (fun f q => by cases q))
      · split at hr
        · rename_i hc
          obtain ⟨rfl, rfl⟩ := hc
          cases hr
          have hii : i = .bastore := by rcases hi with q | q | q <;> first | exact q.2 | exact absurd q.1 (by decide)
          subst hii
          exact va_bast X.1 X.2.1 (h7.K he) h7.1 h7.2.1 h8 o 0 (a_ws_get he) rfl hin hd (fin _ _ _ _ he rfl (fun f q => by cases q))
        · split at hr
          · rename_i hc
            obtain ⟨rfl, rfl⟩ := hc
            cases hr
            have hii : i = .bastore := by rcases hi with q | q | q <;> first | exact q.2 | exact absurd q.1 (by decide)
            subst hii
            exact va_zast X.1 X.2.1 (h7.K he) h7.1 h7.2.1 h8 o 0 (a_ws_get he) rfl hin hd (fin _ _ _ _ he rfl (fun f q => by cases q))
          · cases hr
    · cases hr
  · rename_i ty n f x he
    split at hr
    · rename_i hc
      obtain ⟨hin, rfl, rfl⟩ := hc
      cases hr
      have hii : i = .lastore := by rcases hi with q | q | q <;> first | exact q.2 | exact absurd q.1 (by decide)
      subst hii
      exact va_last X.1 X.2.1 (h7.K he) h7.1 h7.2.1 h8 o 0 (a_ws_get he) rfl hin hd (fin _ _ _ _ he rfl (fun f q => by cases q))
    · cases hr
  · cases hr
theorem a_aastore (X : a_cx p s H0 m args meth c cc own nL A xs L ad0 ini) (hd : decode cc pc = .ok (.aastore, 1)) {a b : Nat}
    (hz : a_ins xs L .aastore a b pc ls st h cb nb = some z) (k : a_GS p l e R s H0 m args below meth c Q D A nL ad0 n0 z) : a_G p l e R s H0 m args below meth c Q D A nL ad0 n0 pc ls st h cb nb := by
  simp only [a_ins, a_wq] at hz
  split at hz
  · rename_i q j o r
    split at hz
    · rename_i ty n f cj fs he hq
      split at hz
      · rename_i hc
        obtain ⟨hin, rfl, h10', rfl⟩ := hc
        simp only [Option.map_some, Option.some.injEq] at hz
        subst hz
        intro ad ca H locs cells slots ls' h1 h2 h3 h4 h5 h6 h7 h8 h9 h10
        simp only [a_oks_cons] at h5
        refine va_astq (r := (a_cn cj, a_T cj, a_nf cj)) X.1 X.2.1 (h7.K he) h7.1 h7.2.1 h8 o 0 q cj (a_ws_get he) rfl (a_ws_get hq) (a_cl h10') hin hd (fun H1 locs1 hP hD hS => ?_)
        have ek : (fun i => (va_up f j.toNatClampNeg (some q) i).map ad) = va_up (fun i => (f i).map ad) j.toNatClampNeg (some (ad q)) := by
          funext i
          simp only [va_up]
          split <;> rfl
        have w1 : a_Wd D ad ca (h.set o (.inl (.object (a_cn cj), n, .inr (.inr (.inr (.inr (va_up f j.toNatClampNeg (some q)))))))) A s H1 := h7.set
          (by show va_P D vwCl ((a_ws ad ca h).set o (ad o, .inl (ca o, n, .inr (.inr (.inr (.inr (fun i => (va_up f j.toNatClampNeg (some q) i).map ad))))))) H1; rw [ek]; exact hP)
          (by show va_D A ((a_ws ad ca h).set o (ad o, .inl (ca o, n, .inr (.inr (.inr (.inr (fun i => (va_up f j.toNatClampNeg (some q) i).map ad))))))); rw [ek]; exact hD)
          (fun x e9 => by cases e9; exact ⟨_, he, rfl⟩)
        refine k ad ca H1 locs1 cells slots ls' h1 (by rw [List.length_set]; exact h2) h3 (by rw [List.length_set]; exact h4) (by rw [List.length_set]; exact h5.2.2.2) (a_okh_set h6 o ?_) w1 hS h9 h10
        intro f9 e9 i9 j9 hf9
        cases e9
        simp only [va_up] at hf9
        split at hf9
        · cases hf9; exact h5.1 _ rfl
        · exact h6 o _ he f rfl _ _ hf9
      · simp at hz
    · simp at hz
  · cases hz
theorem a_arraylength (X : a_cx p s H0 m args meth c cc own nL A xs L ad0 ini) (hd : decode cc pc = .ok (.arraylength, 1)) {a b : Nat}
    (hz : a_ins xs L .arraylength a b pc ls st h cb nb = some z) (k : a_GS p l e R s H0 m args below meth c Q D A nL ad0 n0 z) : a_G p l e R s H0 m args below meth c Q D A nL ad0 n0 pc ls st h cb nb := by
  simp only [a_ins, a_len] at hz
  split at hz
  · rename_i o r
    split at hz
    · rename_i ho
      subst ho
      simp only [Option.map_some, Option.some.injEq] at hz
      subst hz
      intro ad ca H locs cells slots ls' h1 h2 h3 h4 h5 h6 h7 h8 h9 h10
      simp only [a_oks_cons] at h5
      obtain ⟨⟨hX, hbl, hbA⟩, -⟩ := X.2.2.2.2.2.2.1
      have e9 : ad a_big = ad0 a_big := h1 _ (Or.inr (Nat.le_refl _))
      have kk := k ad ca H locs cells slots ls' h1 h2 h3 h4 (a_oks_cons.mpr ⟨a_okv_int _ _, h5.2⟩) h6 h7 h8 h9 h10
      show W p l e R s m args below meth c H locs cells slots Q (F0 m pc ls' (.ref (ad a_big) :: r.map (a_v ad)))
      rw [e9]
      exact va_slen X.1 X.2.1 hX hbl hbA h8 hd kk
    · split at hz
      · rename_i ty n x he
        simp only [Option.map_some, Option.some.injEq] at hz
        subst hz
        intro ad ca H locs cells slots ls' h1 h2 h3 h4 h5 h6 h7 h8 h9 h10
        simp only [a_oks_cons] at h5
        have kk := k ad ca H locs cells slots ls' h1 h2 h3 h4 (a_oks_cons.mpr ⟨a_okv_int _ _, h5.2⟩) h6 h7 h8 h9 h10
        exact va_alen X.1 X.2.1 (h7.K he) h7.1 o 0 (a_ws_get he) rfl rfl hd kk
      · simp at hz
  · cases hz
/-- a new cell's frame -/
theorem a_fresh {ad : Nat → Nat} {ca : Nat → ClassId} {H1 : Heap} {locs : List Loc} {cells slots : Nat} {ls' : Array Slot} {c9 : a_C} {q : Nat} {cA : ClassId} {r : List Value} {k1 k2 pc' : Nat} (hw : ∃ H, a_Wd D ad ca h A s H) (hc : a_okc h.length c9) (hn : h.length < a_big)
    (k : a_G p l e R s H0 m args below meth c Q D A nL ad0 n0 pc' ls (.ref h.length :: r) (h ++ [c9]) (cb - k1) (nb - k2)) (hk1 : k1 ≤ cb) (hk2 : k2 ≤ nb)
    (h1 : a_agr n0 ad0 ad) (h2 : n0 ≤ h.length) (h3 : a_L ad nL ls ls') (h4 : a_oks h.length ls) (h5 : a_oks h.length r) (h6 : a_okh h) (hP : va_P D vwCl (a_ws ad ca h ++ [(q, a_e ad cA c9)]) H1) (hD : va_D A (a_ws ad ca h ++ [(q, a_e ad cA c9)])) (hty : ∀ x, c9 = .inl x → ArrOfT s cA x.1 ∧ va_RA s cA x.1) (h8 : va_S A H0 H1 locs) (h9 : cells + cb ≤ R.cells) (h10 : slots + nb ≤ R.slots) :
    W p l e R s m args below meth c H1 locs (cells + k1) (slots + k2) Q (F0 m pc' ls' (.ref q :: r.map (a_v ad))) := by
  obtain ⟨H, hw⟩ := hw
  have hag := a_agr_up ad q hn
  have w1 := hw.push h6 hn hc hP hD hty
  have hlen : h.length ≤ (h ++ [c9]).length := by rw [List.length_append]; exact Nat.le_add_right _ _
  have kk := k (va_up ad h.length q) (va_up ca h.length cA) H1 locs (cells + k1) (slots + k2) ls' (a_agr_trans h2 h1 hag) (Nat.le_trans h2 hlen) (h3.agr hag h4) (a_oks_mono hlen h4)
    (a_oks_cons.mpr ⟨fun i e9 => by cases e9; exact Or.inl (by rw [List.length_append]; exact Nat.lt_succ_self _), a_oks_mono hlen h5⟩) (a_okh_push h6 hc) w1 h8 (by omega) (by omega)
  have e1 : (Value.ref h.length :: r).map (a_v (va_up ad h.length q)) = .ref q :: r.map (a_v ad) := by
    rw [List.map_cons, a_vs_agr hag h5]
    show Value.ref (va_up ad h.length q h.length) :: _ = _
    simp [va_up]
  rw [e1] at kk
  exact kk
theorem a_new (X : a_cx p s H0 m args meth c cc own nL A xs L ad0 ini) {n : Nat} (hd : decode cc pc = .ok (.new n, 3)) {a b : Nat} (hs : Cond.classLink own n (a_cn a) ∈ lw_good ∧ Cond.instantiable (a_cn a) (a_nf a) ∈ lw_good ∧ Cond.initialized (a_cn a) ∈ lw_good)
    (hz : a_ins xs L (.new n) a b pc ls st h cb nb = some z) (k : a_GS p l e R s H0 m args below meth c Q D A nL ad0 n0 z) : a_G p l e R s H0 m args below meth c Q D A nL ad0 n0 pc ls st h cb nb := by
  simp only [a_ins] at hz
  split at hz
  · rename_i hc
    obtain ⟨hc1, hc2, hc3, hc4⟩ := hc
    cases hz
    intro ad ca H locs cells slots ls' h1 h2 h3 h4 h5 h6 h7 h8 h9 h10
    have efs : ((List.range (a_nf a)).map fun k => defaultValue (a_ty a k)).map (a_v ad) = (List.range (a_nf a)).map fun k => defaultValue (a_ty a k) := by
      rw [List.map_map]
      exact List.map_congr_left fun i _ => a_v_def ad _
    refine va_new (ci := a) (fs := (List.range (a_nf a)).map fun k => defaultValue (a_ty a k)) (C := a_cn a) (T := a_T a) (N := a_nf a) X.1 X.2.1 X.2.2.2.2.1 (a_cw hc4) (a_ty a) (a_ty_ok hc4) X.2.2.2.1 (X.2.2.2.2.1 _ hs.1) (X.2.2.2.2.1 _ hs.2.1) (X.2.2.2.2.1 _ hs.2.2) h7.2.2.1 h7.1 h7.2.1 h8 X.2.2.2.2.2.1 (a_cl hc4)
      (fun j hj => by simp [vp_V, hj]) (by omega) (by omega) hd (fun q H1 hP hD hS => ?_)
    refine a_fresh (c9 := .inr (a, (List.range (a_nf a)).map fun k => defaultValue (a_ty a k))) (cA := 0) (cb := cb) (nb := nb) ⟨H, h7⟩ (fun v hv => ?_) hc3 k hc1 hc2 h1 h2 h3 h4 h5 h6 ?_ ?_ (fun x e9 => by cases e9) hS h9 h10
    · obtain ⟨i, -, rfl⟩ := List.mem_map.mp hv
      exact a_okv_def _ _
    · show va_P D vwCl (a_ws ad ca h ++ [(q, .inr (a, List.map (a_v ad) _))]) H1
      rw [efs]; exact hP
    · show va_D A (a_ws ad ca h ++ [(q, .inr (a, List.map (a_v ad) _))])
      rw [efs]; exact hD
  · cases hz
theorem a_newarray (X : a_cx p s H0 m args meth c cc own nL A xs L ad0 ini) {t : ArrayType} (hd : decode cc pc = .ok (.newarray t, 2)) {a b : Nat} (hs : Cond.arrayClass (newarray.typeOf t) ∈ lw_good)
    (hz : a_ins xs L (.newarray t) a b pc ls st h cb nb = some z) (k : a_GS p l e R s H0 m args below meth c Q D A nL ad0 n0 z) : a_G p l e R s H0 m args below meth c Q D A nL ad0 n0 pc ls st h cb nb := by
  simp only [a_ins] at hz
  split at hz
  · rename_i x r
    split at hz
    · rename_i d hdf
      split at hz
      · rename_i hc
        obtain ⟨hc1, hc2, hc3, hc4, hc5⟩ := hc
        cases hz
        intro ad ca H locs cells slots ls' h1 h2 h3 h4 h5 h6 h7 h8 h9 h10
        rw [a_oks_cons] at h5
        have key : ∀ (x0 : (Nat → Int32) ⊕ (Nat → Int64) ⊕ (Nat → UInt32) ⊕ (Nat → UInt64) ⊕ (Nat → Option Nat)), d.2 = x0 → (∀ f, x0 ≠ .inr (.inr (.inr (.inr f)))) → (∀ cA : ClassId, vp_cell cA (x.toNatClampNeg, x0) = arrV cA x.toNatClampNeg (fun _ => defaultValue (newarray.typeOf t))) → componentBytes (newarray.typeOf t) ≤ 8 →
            W p l e R s m args below meth c H locs cells slots Q (F0 m pc ls' (.int x :: r.map (a_v ad))) := by
          intro x0 ed hx ha hcb
          subst ed
          refine va_newa (atype := t) (ty := newarray.typeOf t) (a0 := (x.toNatClampNeg, d.2)) X.1 X.2.1 (X.2.2.2.2.1 _ hs) rfl h7.2.2.1 h7.1 h7.2.1 h8 X.2.2.2.2.2.1 ha hc4 rfl (Nat.le_trans (Nat.mul_le_mul hc5 hcb) (Nat.le_of_ble_eq_true rfl)) (by omega) (by omega) hd (fun q cA H1 hK hP hD hS => ?_)
          have ek : a_k ad d.2 = d.2 := by
            revert hx
            rcases d.2 with f | f | f | f | f
            · intro _; rfl
            · intro _; rfl
            · intro _; rfl
            · intro _; rfl
            · intro hx; exact absurd rfl (hx f)
          refine a_fresh (c9 := .inl (newarray.typeOf t, x.toNatClampNeg, d.2)) (cA := cA) (cb := cb) (nb := nb) ⟨H, h7⟩ (fun f e9 => absurd e9 (hx f)) hc3 k hc1 hc2 h1 h2 h3 h4 h5.2 h6 ?_ ?_ (fun y e9 => by cases e9; exact hK.2 0 _ rfl) hS h9 h10
          · show va_P D vwCl (a_ws ad ca h ++ [(q, .inl (cA, x.toNatClampNeg, a_k ad d.2))]) H1
            rw [ek]; exact hP
          · show va_D A (a_ws ad ca h ++ [(q, .inl (cA, x.toNatClampNeg, a_k ad d.2))])
            rw [ek]; exact hD
        cases t <;> simp only [newarray.typeOf, a_df] at hdf <;> first
          | (cases hdf; exact key _ rfl (fun f q => by cases q) (fun _ => rfl) (by decide))
          | cases hdf
      · cases hz
    · cases hz
  · cases hz
theorem a_anewarray (X : a_cx p s H0 m args meth c cc own nL A xs L ad0 ini) {n : Nat} (hd : decode cc pc = .ok (.anewarray n, 3)) {a b : Nat} (hs : Cond.classLink own n RX3 ∈ lw_good ∧ a = 3)
    (hz : a_ins xs L (.anewarray n) a b pc ls st h cb nb = some z) (k : a_GS p l e R s H0 m args below meth c Q D A nL ad0 n0 z) : a_G p l e R s H0 m args below meth c Q D A nL ad0 n0 pc ls st h cb nb := by
  simp only [a_ins] at hz
  split at hz
  · rename_i x r
    split at hz
    · rename_i hc
      obtain ⟨hc1, hc2, hc3, hc4, hc5⟩ := hc
      cases hz
      intro ad ca H locs cells slots ls' h1 h2 h3 h4 h5 h6 h7 h8 h9 h10
      rw [a_oks_cons] at h5
      obtain ⟨hs1, rfl⟩ := hs
      refine va_newq (C := RX3) X.1 X.2.1 X.2.2.2.1 (X.2.2.2.2.1 _ hs1) X.2.2.2.2.2.2.1.2.2.2.2.2.2.2.1.1 h7.2.2.1 h7.1 h7.2.1 h8 X.2.2.2.2.2.1 hc4 rfl (Nat.le_trans (Nat.mul_le_mul hc5 (Nat.le_refl 4)) (Nat.le_of_ble_eq_true rfl)) (by omega) (by omega) hd (fun q cA H1 hK hP hD hS => ?_)
      refine a_fresh (c9 := .inl (.object RX3, x.toNatClampNeg, .inr (.inr (.inr (.inr (fun _ => none)))))) (cA := cA) (cb := cb) (nb := nb) ⟨H, h7⟩ (fun f e9 i9 j9 hf => by cases e9; cases hf) hc3 k hc1 hc2 h1 h2 h3 h4 h5.2 h6 hP hD (fun y e9 => by cases e9; exact hK.2 0 _ rfl) hS h9 h10
    · cases hz
  · cases hz
end AHP
end
section
/-! The abstract machine whole: methods, calls, returns, throws. -/
/-- a method: name, bytes, locals, what it returns, its exception table; then (values that a call pops, frames, locals' words, cells and slots that it may need), (may it throw, is it a constructor, the numbers of the classes that its table's rows catch); its instructions: pc, instruction, length, two numbers that say what its operand names -/
abbrev a_Md : Type := MethodName × ByteArray × Nat × Option FieldType × List (Nat × Nat × Nat × Nat) × (Nat × Nat × Nat × Nat × Nat) × (Bool × Bool × List Nat) × List (Nat × Instr × Nat × Nat × Nat)
def m_y (q : a_Md) : MethodName := q.1
def m_cc (q : a_Md) : ByteArray := q.2.1
def m_nL (q : a_Md) : Nat := q.2.2.1
def m_rt (q : a_Md) : Option FieldType := q.2.2.2.1
def m_hh (q : a_Md) : List (Nat × Nat × Nat × Nat) := q.2.2.2.2.1
def m_na (q : a_Md) : Nat := q.2.2.2.2.2.1.1
def m_fr (q : a_Md) : Nat := q.2.2.2.2.2.1.2.1
def m_lo (q : a_Md) : Nat := q.2.2.2.2.2.1.2.2.1
def m_kc (q : a_Md) : Nat := q.2.2.2.2.2.1.2.2.2.1
def m_kn (q : a_Md) : Nat := q.2.2.2.2.2.1.2.2.2.2
def m_thr (q : a_Md) : Bool := q.2.2.2.2.2.2.1.1
def m_ini (q : a_Md) : Bool := q.2.2.2.2.2.2.1.2.1
def m_xk (q : a_Md) : List Nat := q.2.2.2.2.2.2.1.2.2
def m_is (q : a_Md) : List (Nat × Instr × Nat × Nat × Nat) := q.2.2.2.2.2.2.2
/-- what a method ends with: a value (or none), or a class that it throws -/
abbrev a_R : Type := Option Value ⊕ Nat
def a_at (is : List (Nat × Instr × Nat × Nat × Nat)) (pc : Nat) : Option (Instr × Nat × Nat × Nat) := (is.find? fun q => q.1 == pc).map (·.2)
def a_sum (l : List Value) : Nat := (l.map fun v => v.category).sum
/-- members of the JDK: 0 Object(), 1 min, 2 max, 3 arraycopy, 4 length(), 5 charAt(k) -/
def a_b0 (st : List Value) (h : a_H) : Option (List Value × a_H) := match st with
  | .ref _ :: r => if a_sum r ≤ 8 then some (r, h) else none
  | _ => none
def a_b1 (st : List Value) (h : a_H) : Option (List Value × a_H) := match st with
  | .int y :: .int x :: r => if a_sum r ≤ 8 then some (.int (if y < x then y else x) :: r, h) else none
  | _ => none
def a_b2 (st : List Value) (h : a_H) : Option (List Value × a_H) := match st with
  | .int y :: .int x :: r => if a_sum r ≤ 8 then some (.int (if x < y then y else x) :: r, h) else none
  | _ => none
def a_cpy9 (h : a_H) (o0 : Nat) (sp : Int32) (o1 : Nat) (dp k : Int32) : Option a_H := match h[o0]?, h[o1]? with
  | some (.inl (t0, n0, .inl f)), some (.inl (t1, n1, .inl g)) => if (t0 = t1 ∧ (t0 = .int ∨ t0 = .byte)) ∧ (¬ sp < 0 ∧ ¬ dp < 0 ∧ ¬ k < 0 ∧ sp.toNatClampNeg + k.toNatClampNeg ≤ n0 ∧ dp.toNatClampNeg + k.toNatClampNeg ≤ n1) ∧ (∀ i, i < k.toNatClampNeg → fits t0 (.int (f (sp.toNatClampNeg + i))) = true)
    then some (h.set o1 (.inl (t1, n1, .inl (va_cpy f g sp.toNatClampNeg dp.toNatClampNeg k.toNatClampNeg)))) else none
  | _, _ => none
def a_b3 (st : List Value) (h : a_H) : Option (List Value × a_H) := match st with
  | .int k :: .int dp :: .ref o1 :: .int sp :: .ref o0 :: r => if a_sum r ≤ 8 then (a_cpy9 h o0 sp o1 dp k).map fun h1 => (r, h1) else none
  | _ => none
def a_b4 (xs : Nat → Int32) (st : List Value) (h : a_H) : Option (List Value × a_H) := match st with
  | .ref o :: r => if a_sum r ≤ 8 ∧ a_big + 1 ≤ o ∧ o < a_big + 1 + a_tn xs then some (.int (nI ((a_sl xs).getD (o - (a_big + 1)) 0)) :: r, h) else none
  | _ => none
def a_b5 (xs : Nat → Int32) (st : List Value) (h : a_H) : Option (List Value × a_H) := match st with
  | .int k :: .ref o :: r => if a_sum r ≤ 8 ∧ a_big + 1 ≤ o ∧ o < a_big + 1 + a_tn xs ∧ ¬ (k < 0 ∨ (a_sl xs).getD (o - (a_big + 1)) 0 ≤ k.toNatClampNeg) then some (.int (((a_sb xs).getD (o - (a_big + 1)) []).getD k.toNatClampNeg 0 &&& 255) :: r, h) else none
  | _ => none
def a_bi (xs : Nat → Int32) (w : Nat) (st : List Value) (h : a_H) : Option (List Value × a_H) := match w with
  | 0 => a_b0 st h
  | 1 => a_b1 st h
  | 2 => a_b2 st h
  | 3 => a_b3 st h
  | 4 => a_b4 xs st h
  | 5 => a_b5 xs st h
  | _ => none
/-- an array of m arrays of k ints -/
def a_m1 (b m : Nat) : a_C := .inl (.array .int, m, .inr (.inr (.inr (.inr (fun i => if i < m then some (b + i) else none)))))
def a_m2 (k : Nat) : a_C := .inl (.int, k, .inl (fun _ => 0))
def a_mn (st : List Value) (h : a_H) (c n : Nat) : Option (List Value × a_H × Nat × Nat) := match st with
  | .int k :: .int m :: r => if (¬ m < 0 ∧ ¬ k < 0) ∧ (m.toNatClampNeg ≤ 1000 ∧ k.toNatClampNeg ≤ 1000) ∧ 1 + m.toNatClampNeg ≤ c ∧ m.toNatClampNeg + m.toNatClampNeg * k.toNatClampNeg ≤ n ∧ h.length + m.toNatClampNeg + 1 < a_big
    then some (.ref h.length :: r, h ++ (a_m1 (h.length + 1) m.toNatClampNeg :: List.replicate m.toNatClampNeg (a_m2 k.toNatClampNeg)), c - (1 + m.toNatClampNeg), n - (m.toNatClampNeg + m.toNatClampNeg * k.toNatClampNeg)) else none
  | _ => none
/-- what a handler gives: 'keep the exception in a local; push a number; return it' -/
def a_hv (q : a_Md) (hp : Nat) : Option Int32 :=
  match a_at (m_is q) hp with
  | some (.astore_n k, _) => if (k : Nat) < m_nL q then (match a_at (m_is q) (hp + 1), a_at (m_is q) (hp + 2) with
    | some (.iconst v, _), some (.ireturn, _) => some (Int32.ofInt v)
    | _, _ => none) else none
  | some (.astore k, _) => if k < m_nL q then (match a_at (m_is q) (hp + 2), a_at (m_is q) (hp + 3) with
    | some (.iconst v, _), some (.ireturn, _) => some (Int32.ofInt v)
    | _, _ => none) else none
  | _ => none
/-- an exception of class k comes back at a call -/
def a_hx (q : a_Md) (k : Nat) (h : a_H) : Option (a_R × a_H) :=
  match (m_hh q).zip (m_xk q) |>.find? (fun z => z.2 == k) with
  | some z => (a_hv q z.1.2.2.1).bind fun v => if v = 0 ∨ v = 1 then some (.inl (some (.int v)), h) else none
  | none => if m_thr q = true ∧ m_hh q = [] ∧ k < 4 then some (.inr k, h) else none
def a_isr (v : Option Value) : Bool := match v with
  | some (.ref _) => true
  | _ => false
def a_isc (h : a_H) (v : Option Value) (ci : Nat) : Bool := match v with
  | some (.ref o) => (match h[o]? with
    | some (.inr (cj, _)) => cj == ci
    | _ => false)
  | _ => false
/-- a step: to a place; to a call; to the end -/
abbrev a_O : Type := a_S ⊕ (Nat × List Value × a_S) ⊕ (a_R × a_H)
def a_1 (MT : Nat → Option a_Md) (xs : Nat → Int32) (L : Nat) (q : a_Md) (pc : Nat) (ls st : List Value) (h : a_H) (c n : Nat) : Option a_O :=
  match a_at (m_is q) pc with
  | none => none
  | some (i, _, a, b) => match i with
    | .ireturn => match st with
      | [.int v] => (match m_rt q with
        | some ty => if narrow ty (.int v) = .int v then some (.inr (.inr (.inl (some (.int v)), h))) else none
        | none => none)
      | _ => none
    | .dreturn => match st with
      | [.double v] => if m_rt q = some .double then some (.inr (.inr (.inl (some (.double v)), h))) else none
      | _ => none
    | .freturn => match st with
      | [.float v] => if m_rt q = some .float then some (.inr (.inr (.inl (some (.float v)), h))) else none
      | _ => none
    | .return_ => match st with
      | [] => if m_rt q = none then some (.inr (.inr (.inl none, h))) else none
      | _ => none
    | .new _ => if 100 ≤ a then (if m_thr q = true ∧ m_hh q = [] ∧ 1 ≤ c ∧ 6 ≤ n ∧ a_sum st ≤ 8 ∧ a < 103 then some (.inr (.inr (.inr (a - 100), h))) else none)
      else (a_ins xs L i a b pc ls st h c n).map .inl
    | .multianewarray _ d => if d = 2 then (a_mn st h c n).map (fun z => .inl (pc + 4, ls, z)) else none
    | .invokevirtual _ => if 1000 ≤ a then (a_bi xs (a - 1000) st h).map (fun z => .inl (pc + 3, ls, z.1, z.2, c, n))
      else match MT a with
        | some y => if m_na y ≤ st.length ∧ m_kc y ≤ c ∧ m_kn y ≤ n ∧ a_sum (st.drop (m_na y)) ≤ 8 ∧ 1 ≤ m_na y ∧ a_isc h (st[m_na y - 1]?) b = true then some (.inr (.inl (a, (st.take (m_na y)).reverse, (pc, ls, st.drop (m_na y), h, c, n)))) else none
        | none => none
    | .invokestatic _ => if 1000 ≤ a then (a_bi xs (a - 1000) st h).map (fun z => .inl (pc + 3, ls, z.1, z.2, c, n))
      else match MT a with
        | some y => if m_na y ≤ st.length ∧ m_kc y ≤ c ∧ m_kn y ≤ n ∧ a_sum (st.drop (m_na y)) ≤ 8 then some (.inr (.inl (a, (st.take (m_na y)).reverse, (pc, ls, st.drop (m_na y), h, c, n)))) else none
        | none => none
    | .invokespecial _ => if 1000 ≤ a then (a_bi xs (a - 1000) st h).map (fun z => .inl (pc + 3, ls, z.1, z.2, c, n))
      else match MT a with
        | some y => if m_na y ≤ st.length ∧ m_kc y ≤ c ∧ m_kn y ≤ n ∧ a_sum (st.drop (m_na y)) ≤ 8 ∧ 1 ≤ m_na y ∧ a_isr (st[m_na y - 1]?) = true then some (.inr (.inl (a, (st.take (m_na y)).reverse, (pc, ls, st.drop (m_na y), h, c, n)))) else none
        | none => none
    | _ => (a_ins xs L i a b pc ls st h c n).map .inl
/-- the locals at a method's entry -/
def a_ent : List Value → List Value
  | [] => []
  | v :: r => if v.category = 2 then v :: a_dead :: a_ent r else v :: a_ent r
def a_loc (nL : Nat) (vs : List Value) : List Value := a_ent vs ++ List.replicate (nL - (a_ent vs).length) a_dead
/-- f steps of a method; K runs the methods that it calls -/
def a_ex (K : Nat → List Value → a_H → Option (a_R × a_H)) (MT : Nat → Option a_Md) (xs : Nat → Int32) (L : Nat) (q : a_Md) : Nat → Nat → List Value → List Value → a_H → Nat → Nat → Option (a_R × a_H)
  | 0, _, _, _, _, _, _ => none
  | f + 1, pc, ls, st, h, c, n => match a_1 MT xs L q pc ls st h c n with
    | none => none
    | some (.inl z) => a_ex K MT xs L q f z.1 z.2.1 z.2.2.1 z.2.2.2.1 z.2.2.2.2.1 z.2.2.2.2.2
    | some (.inr (.inr z)) => some z
    | some (.inr (.inl z)) => match MT z.1, K z.1 z.2.1 z.2.2.2.2.2.1 with
      | some y, some (.inl v, h') => a_ex K MT xs L q f (z.2.2.1 + 3) z.2.2.2.1 (v.toList ++ z.2.2.2.2.1) h' (z.2.2.2.2.2.2.1 - m_kc y) (z.2.2.2.2.2.2.2 - m_kn y)
      | some _, some (.inr k, h') => a_hx q k h'
      | _, _ => none
def a_run (MT : Nat → Option a_Md) (xs : Nat → Int32) (L F : Nat) : Nat → Nat → List Value → a_H → Option (a_R × a_H)
  | 0, _, _, _ => none
  | d + 1, i, vs, h => match MT i with
    | none => none
    | some q => if (a_ent vs).length ≤ m_nL q then a_ex (a_run MT xs L F d) MT xs L q F 0 (a_loc (m_nL q) vs) [] h (m_kc q) (m_kn q) else none
end
section
def a_thws (ic kx : Nat) : List Cond := vx_atS RX8 ic (a_xn kx) ["java/lang/RuntimeException", "java/lang/Exception"]
/-! What a method's table must tell rightly; what a method's contract says. -/
def a_cwd (y : a_Md) : Cond := if m_hh y = [] then .code (m_y y) (m_cc y) (m_nL y) (m_rt y) else .codeWith (m_y y) (m_cc y) (m_nL y) (m_rt y) (m_hh y)
def a_wsm (y : a_Md) : List Cond := a_cwd y :: lw_good
def a_np (y : a_Md) : Option Nat := (parseMethodDescriptor (m_y y).desc).map fun d => d.parameters.length
def a_room (q y : a_Md) : Prop := m_fr y + 1 ≤ m_fr q ∧ 8 + (m_nL y + 11) + m_lo y ≤ m_lo q
/-- the callee is as the words have it -/
def a_okq (q y : a_Md) : Prop := a_room q y ∧ Cond.initialized (m_y y).cls ∈ lw_good ∧ a_cwd y ∈ lw_good ∧ ((m_y y).cls ≠ "java/lang/invoke/MethodHandle" ∧ (m_y y).cls ≠ "java/lang/invoke/VarHandle")
/-- the link, plain or between nest mates -/
def a_lnk (own : String) (n b : Nat) (y : MethodName) : Prop := (b = 0 ∧ Cond.methodLink own n y ∈ lw_good) ∨ (b = 1 ∧ Cond.methodLinkNest own n y RX8 ∈ a_nest)
def a_okw (MT : Nat → Option a_Md) (q : a_Md) (pc : Nat) (i : Instr) (len a b : Nat) : Prop := match i with
  | .getfield n => len = 3 ∧ a < 10 ∧ b < a_nf a ∧ Cond.fieldLink (m_y q).cls n (a_T a b).1 (a_T a b).2.1 (a_T a b).2.2.1 ∈ lw_good
  | .putfield n => len = 3 ∧ (a < 10 ∧ b < a_nf a ∧ Cond.fieldLink (m_y q).cls n (a_T a b).1 (a_T a b).2.1 (a_T a b).2.2.1 ∈ lw_good) ∧ ((a_T a b).2.2.2 = false ∨ ((a_T a b).2.2.2 = true ∧ m_ini q = true ∧ (a_T a b).1 = (m_y q).cls))
  | .new n => len = 3 ∧ ((a < 100 ∧ Cond.classLink (m_y q).cls n (a_cn a) ∈ lw_good ∧ Cond.instantiable (a_cn a) (a_nf a) ∈ lw_good ∧ Cond.initialized (a_cn a) ∈ lw_good) ∨
      (100 ≤ a ∧ (m_y q).cls = RX8 ∧ Cond.classLink RX8 n (a_xn (a - 100)) ∈ lw_good ∧ Cond.initialized (a_xn (a - 100)) ∈ lw_good ∧ (∃ is ic tx, (is, tx) ∈ a_thr ∧ decode (m_cc q) (pc + 3) = .ok (.dup, 1) ∧ decode (m_cc q) (pc + 4) = .ok (.ldc_w is, 3) ∧ decode (m_cc q) (pc + 7) = .ok (.invokespecial ic, 3) ∧ decode (m_cc q) (pc + 10) = .ok (.athrow, 1) ∧
        (∀ w ∈ a_thws ic (a - 100), w ∈ lw_good ∨ w ∈ a_nest)) ∧ 6 ≤ m_fr q ∧ 90 ≤ m_lo q))
  | .newarray t => len = 2 ∧ Cond.arrayClass (newarray.typeOf t) ∈ lw_good
  | .multianewarray n d => len = 4 ∧ d = 2 ∧ Cond.classLink (m_y q).cls n "[[I" ∈ lw_good ∧ Cond.arrayClass .int ∈ lw_good
  | .anewarray n => len = 3 ∧ Cond.classLink (m_y q).cls n RX3 ∈ lw_good ∧ a = 3
  | .ldc n => len = 2 ∧ ∃ tx, ((m_y q).cls, n, tx, a) ∈ a_strs
  | .ldc_w n => len = 3 ∧ ∃ tx, ((m_y q).cls, n, tx, a) ∈ a_strs
  | .ldc2_w n => len = 3 ∧ Cond.constantLong (m_y q).cls n (Int64.ofNat a) ∈ lw_good
  | .invokevirtual n => len = 3 ∧ ((1000 ≤ a ∧ ((a = 1004 ∧ Cond.methodLink (m_y q).cls n yJ0_length_8abf5 ∈ lw_good) ∨ (a = 1005 ∧ Cond.methodLink (m_y q).cls n yJ0_charAt_5068e ∈ lw_good)) ∧ 6 ≤ m_fr q ∧ 140 ≤ m_lo q) ∨
      (a < 1000 ∧ ∀ y, MT a = some y → a_okq q y ∧ m_hh y = [] ∧ Cond.methodLink (m_y q).cls n (m_y y) ∈ lw_good ∧ Cond.instanceMethod (m_y y) ∈ lw_good ∧ Cond.selects (m_y y).cls (m_y y) (m_y y) ∈ lw_good ∧ a_np y = some (m_na y - 1) ∧ b < 10 ∧ a_cn b = (m_y y).cls))
  | .invokestatic n => len = 3 ∧ ((1000 ≤ a ∧ ((a = 1001 ∧ Cond.methodLink (m_y q).cls n Lib.Math.min.name ∈ lw_good) ∨ (a = 1002 ∧ Cond.methodLink (m_y q).cls n Lib.Math.max.name ∈ lw_good) ∨ (a = 1003 ∧ Cond.methodLink (m_y q).cls n arraycopyName ∈ lw_good)) ∧ 1 ≤ m_fr q ∧ 30 ≤ m_lo q) ∨
      (a < 1000 ∧ ∀ y, MT a = some y → a_okq q y ∧ (m_hh y = [] ∨ b = 0 ∧ m_thr y = false) ∧ a_lnk (m_y q).cls n b (m_y y) ∧ (b = 1 → m_thr y = false) ∧ Cond.static (m_y y) ∈ lw_good ∧ a_np y = some (m_na y)))
  | .invokespecial n => len = 3 ∧ ((a = 1000 ∧ Cond.methodLink (m_y q).cls n Lib.objectInit ∈ lw_good ∧ 1 ≤ m_fr q ∧ 30 ≤ m_lo q) ∨
      (a < 1000 ∧ ∀ y, MT a = some y → a_okq q y ∧ m_hh y = [] ∧ m_thr y = false ∧ (m_y y).name = "<init>" ∧ m_rt y = none ∧ a_lnk (m_y q).cls n b (m_y y) ∧ Cond.instanceMethod (m_y y) ∈ lw_good ∧ a_np y = some (m_na y - 1)))
  | .tableswitch .. => True
  | .sipush _ | .if_icmp .. | .ifCond .. | .goto _ | .iinc .. => len = 3
  | .bipush _ | .iload _ | .lload _ | .dload _ | .aload _ | .istore _ | .astore _ | .dstore _ => len = 2
  | _ => len = 1
/-- a row of a method's table -/
def a_oke (MT : Nat → Option a_Md) (q : a_Md) (z : Nat × Instr × Nat × Nat × Nat) : Prop := decode (m_cc q) z.1 = .ok (z.2.1, z.2.2.1) ∧ a_okw MT q z.1 z.2.1 z.2.2.1 z.2.2.2.1 z.2.2.2.2
/-- a row of a method's exception table -/
def a_okh9 (q : a_Md) : Prop := m_hh q = [] ∨ (m_thr q = false ∧ (m_rt q = some .int ∨ m_rt q = some .boolean) ∧ (m_hh q).length = (m_xk q).length ∧ (m_hh q).length ≤ 1 ∧
  ∀ z ∈ (m_hh q).zip (m_xk q), z.1.2.2.2 ≠ 0 ∧ z.2 < 4 ∧ Cond.classLink (m_y q).cls z.1.2.2.2 (a_xn z.2) ∈ lw_good ∧ Cond.castable (a_xn z.2) (a_xn z.2) ∈ a_nest ∧ (∀ e ∈ m_is q, (∃ n, e.2.1 = .invokevirtual n) → z.1.1 ≤ e.1 ∧ e.1 < z.1.2.1))
def a_okm (MT : Nat → Option a_Md) (q : a_Md) : Prop := plainName (m_y q).cls = true ∧ (∀ z ∈ m_is q, a_oke MT q z) ∧ a_okh9 q ∧ (m_ini q = true → (m_y q).name = "<init>") ∧ (m_hh q ≠ [] → ∀ e ∈ m_is q, (∃ n, e.2.1 = .invokestatic n ∨ e.2.1 = .invokespecial n) → False)
theorem a_at_mem {is : List (Nat × Instr × Nat × Nat × Nat)} {pc : Nat} {r : Instr × Nat × Nat × Nat} (h : a_at is pc = some r) : (pc, r) ∈ is := by
  unfold a_at at h
  rw [Option.map_eq_some_iff] at h
  obtain ⟨z, h1, h2⟩ := h
  have h3 := List.find?_some h1
  have h4 := List.mem_of_find?_eq_some h1
  obtain ⟨a, b⟩ := z
  have : a = pc := by simpa using h3
  subst this
  dsimp only at h2
  subst h2
  exact h4
/-- the world behind a method -/
def a_Bt (D : va_G) (ad : Nat → Nat) (n0 : Nat) (A : Nat → Prop) (h0 : a_H) (t : State) : Prop := ∃ (ad' : Nat → Nat) (ca' : Nat → ClassId), a_agr n0 ad ad' ∧ n0 ≤ h0.length ∧ a_okh h0 ∧ a_Wd D ad' ca' h0 A t t.heap
def a_Qr (D : va_G) (ad : Nat → Nat) (n0 : Nat) (A : Nat → Prop) (res : a_R) (h0 : a_H) : Array Value → State → Outcome → State → Prop := fun _ st oc t => (∃ v : Option Value, res = .inl v ∧ oc = .returned v ∧ ∀ w, v = some w → ∀ i, w ≠ .ref i) ∧ a_Bt D ad n0 A h0 t ∧ va_F A st t
def a_Xr (D : va_G) (ad : Nat → Nat) (n0 : Nat) (A : Nat → Prop) (res : a_R) (h0 : a_H) : String → State → State → Prop := fun E st t => (∃ k, res = .inr k ∧ k < 4 ∧ E = a_xn k) ∧ a_Bt D ad n0 A h0 t ∧ va_F A st t
def a_Pc (D : va_G) (ad : Nat → Nat) (ca : Nat → ClassId) (h : a_H) (sz : Nat) (xs : Nat → Int32) (L : Nat) (vs : List Value) : Array Value → State → Prop :=
  va_Pc (vs.map (a_v ad)) (fun U => U.heap.size = sz ∧ a_Wd D ad ca h (fun _ => True) U U.heap ∧ a_Amb xs L ad (va_A (a_ws ad ca h) sz) U U.heap)
def a_Con (l : Launch) (y : a_Md) (xs : Nat → Int32) (L : Nat) (vs : List Value) (h : a_H) (res : a_R) (h0 : a_H) : Prop :=
  ∀ (D : va_G) (ad : Nat → Nat) (ca : Nat → ClassId) (sz : Nat), a_oks h.length vs → a_okh h → vx_Met l (m_y y) (a_wsm y) { frames := m_fr y, cells := m_kc y, slots := m_kn y, locals := m_lo y } (a_Pc D ad ca h sz xs L vs)
    (a_Qr D ad h.length (va_A (a_ws ad ca h) sz) res h0) (a_Xr D ad h.length (va_A (a_ws ad ca h) sz) res h0) (m_kc y) (m_kn y) (va_A (a_ws ad ca h) sz)
theorem a_Pc_blind {D : va_G} {ad : Nat → Nat} {ca : Nat → ClassId} {h : a_H} {sz : Nat} {xs : Nat → Int32} {L : Nat} {vs : List Value} : FrameBlind (a_Pc D ad ca h sz xs L vs) := by
  intro a U g mk q
  obtain ⟨q0, q1, q2, q3⟩ := q
  refine ⟨q0, q1, a_Wd.moved (u := U) (U := U.calling g mk a) (Vm.Alike.refl U.vm) q2, ?_⟩
  exact a_Amb.to (s := U) (U := U.calling g mk a) (H := U.heap) (locs := []) q3 va_S.rf (State.WarmedH.refl U) (fun _ h => h) (fun _ _ => rfl)
/-- a method that doesn't throw -/
theorem a_noX {l : Launch} {y : MethodName} {ws : List Cond} {rm : Room} {Pc : Array Value → State → Prop} {D : va_G} {ad : Nat → Nat} {n0 : Nat} {A : Nat → Prop} {v : Option Value} {h0 : a_H} {mc ms : Nat} {free : Addr → Prop} (h : vx_Met l y ws rm Pc (a_Qr D ad n0 A (.inl v) h0) (a_Xr D ad n0 A (.inl v) h0) mc ms free) : Met l y ws rm Pc (a_Qr D ad n0 A (.inl v) h0) mc ms free := by
  intro p e ha hc hk s m args below hf hap hP hK
  obtain ⟨n, o, h1, h2, h3, h4⟩ := h p e ha hc hk s m args below hf hap hP hK
  refine ⟨n, o, h1, h2, h3, ?_⟩
  rcases h4 with h4 | ⟨q, -, E, ce, L9, hx, -⟩
  · exact h4
  · obtain ⟨⟨k, hk9, -⟩, -⟩ := hx
    cases hk9
theorem a_toX {p : Program} {l : Launch} {e : Env} {R : Room} {s : State} {m : MethodId} {args : Array Value} {below : List Frame} {meth : Method} {c : Code} {H : Heap} {locs : List Loc} {cells slots mc ms : Nat} {g : JFrame} {rest : List Value} {Qa : State → Outcome → State → Prop} {XC : String → State → State → Prop} {free : Addr → Prop}
    (h : va_Run p l e R s m args below meth c H locs cells slots mc ms g rest Qa free) : vx_Run p l e R s m args below meth c H locs cells slots mc ms g rest Qa XC free := by
  intro T hT X
  obtain ⟨v, st0, t, T', L9, h1, h2, h3, h4, h5, h6, h7⟩ := h T hT X
  exact Or.inl ⟨v, st0, t, T', L9, h1, h2, h3, h4, h5, h6, h7⟩
/-- a call, whatever comes back -/
theorem a_call {p : Program} {l : Launch} {e : Env} {R : Room} {s : State} {m : MethodId} {args : Array Value} {below : List Frame} {meth : Method} {c : Code} {H H0 : Heap} {locs : List Loc} {cells slots mc ms : Nat} {Q : State → Prop} {pc : Nat} {ls' : Array Slot} {st0 rest : List Value} {D : va_G} {ad : Nat → Nat} {n0 : Nat} {A0 A1 : Nat → Prop} {res : a_R} {h0 : a_H} {a : Array Value}
    (hr : vx_Run p l e R s m args below meth c H locs cells slots mc ms (F0 m pc ls' st0) rest (a_Qr D ad n0 A1 res h0 a) (a_Xr D ad n0 A1 res h0) A1) (hS : va_S A0 H0 H locs) (hA : ∀ q, A1 q → A0 q)
    (kx : ∀ (k : Nat) (ce : Cell) (q9 : Addr) (t : State) (H1 : Heap) (locs1 : List Loc), res = .inr k → k < 4 → t.heap = H1 → s.vm.Alike t.vm → a_Bt D ad n0 A1 h0 t → va_S A0 H0 H1 locs1 → H1[q9]? = some ce → ce.vm = .none → s.vm.findClass (a_xn k) = some ce.cls → vx_W p l e R s m args below meth c H1 locs1 (cells + mc) (slots + ms) Q (F0 m pc ls' rest) q9)
    (kk : ∀ (v : Option Value) (t : State) (H1 : Heap) (locs1 : List Loc), res = .inl v → (∀ w, v = some w → ∀ i, w ≠ .ref i) → t.heap = H1 → s.vm.Alike t.vm → a_Bt D ad n0 A1 h0 t → va_S A0 H0 H1 locs1 → W p l e R s m args below meth c H1 locs1 (cells + mc) (slots + ms) Q (F0 m (pc + 3) ls' (v.toList ++ rest))) : W p l e R s m args below meth c H locs cells slots Q (F0 m pc ls' st0) := by
  intro T hT X
  rcases hr T hT X with ⟨v, st₀, t, T', L9, g0, X', hL, e1, e2, ⟨⟨v9, hv1, hv2, hv3⟩, hb, hF⟩, st⟩ | ⟨q, st₀, t, T', L9, E, ce, g0, X', hL, e1, e2, ⟨⟨k, hk1, hk2, rfl⟩, hb, hF⟩, hce, hcv, hcl, st⟩
  · cases hv2
    obtain ⟨k1, k2, k3⟩ := vx_keep g0 e1 hS (fun q _ h => hA q h) hA hL hF
    obtain ⟨t2, a1, b1⟩ := kk v t T'.heap (locs ++ L9) hv1 hv3 e1.symm (by rw [← e2]; exact X'.warmed.alike) hb k3 T' rfl X'
    exact ⟨t2, st t2 a1, b1⟩
  · obtain ⟨k1, k2, k3⟩ := vx_keep g0 e1 hS (fun q _ h => hA q h) hA hL hF
    obtain ⟨t2, a1, b1⟩ := kx k ce q t T'.heap (locs ++ L9) hk1 hk2 e1.symm (by rw [← e2]; exact X'.warmed.alike) hb k3 (by rw [e1]; exact hce) hcv hcl T' rfl X'
    exact ⟨t2, st.trans a1, b1⟩
end
section
/-! The members of the JDK that the class and the reference call over string constants. -/
def a_jl : List Cond := [.fieldLink RJ0 38 "java/lang/String" "COMPACT_STRINGS" "Z", .fieldLink RJ0 15 "java/lang/String" "coder" "B", .fieldLink RJ0 9 "java/lang/String" "value" "[B", .fieldLink RJ0 1053 "jdk/internal/util/Preconditions" "SIOOBE_FORMATTER" "Ljava/util/function/BiFunction;", .methodLink RJ0 335 yJ0_coder_7d493, .methodLink RJ0 492 yJ0_isLatin1_aae02, .methodLink RJ0 495 yJ1_charAt_3b067, .methodLink RJ1 9 yJ0_checkIndex_df160, .methodLink RJ0 1059 yJ3_checkIndex_8e157, .instanceMethod yJ0_coder_7d493, .selects RJ0 yJ0_coder_7d493 yJ0_coder_7d493, .instanceMethod yJ0_isLatin1_aae02, .selects RJ0 yJ0_isLatin1_aae02 yJ0_isLatin1_aae02, .instanceMethod yJ0_length_8abf5, .selects RJ0 yJ0_length_8abf5 yJ0_length_8abf5, .instanceMethod yJ0_charAt_5068e, .selects RJ0 yJ0_charAt_5068e yJ0_charAt_5068e, .static yJ1_charAt_3b067, .static yJ0_checkIndex_df160, .static yJ3_checkIndex_8e157, .code yJ0_coder_7d493 cJ0_coder_7d493 1 (some .byte), .code yJ0_length_8abf5 cJ0_length_8abf5 1 (some .int), .code yJ0_isLatin1_aae02 cJ0_isLatin1_aae02 1 (some .boolean), .code yJ0_charAt_5068e cJ0_charAt_5068e 2 (some .char), .code yJ0_checkIndex_df160 cJ0_checkIndex_df160 2 none, .code yJ1_charAt_3b067 cJ1_charAt_3b067 2 (some .char), .code yJ3_checkIndex_8e157 cJ3_checkIndex_8e157 3 (some .int), .initialized RJ0, .initialized RJ1, .initialized RJ3, .static Lib.Math.min.name, .code Lib.Math.min.name Lib.Math.min.code 2 (some .int), .static Lib.Math.max.name, .code Lib.Math.max.name Lib.Math.max.code 2 (some .int), .initialized "java/lang/Math", .native arraycopyName, .static arraycopyName, .initialized "java/lang/System", .instanceMethod Lib.objectInit, .code Lib.objectInit ⟨#[0xb1]⟩ 1 none]
theorem a_jm : ∀ w ∈ a_jl, w ∈ lw_good := a_good [382, 1427, 1426, 398, 378, 388, 392, 395, 400, 379, 380, 389, 390, 375, 376, 385, 386, 393, 396, 401, 381, 377, 391, 387, 397, 394, 402, 47, 48, 49, 435, 436, 890, 891, 51, 531, 530, 52, 71, 72] (by decide +kernel) (by decide +kernel)
theorem dJ0_length_8abf5_0 : decode cJ0_length_8abf5 0 = .ok (.aload_n 0, 1) := by decide +kernel
theorem dJ0_length_8abf5_1 : decode cJ0_length_8abf5 1 = .ok (.getfield 9, 3) := by decide +kernel
theorem dJ0_length_8abf5_4 : decode cJ0_length_8abf5 4 = .ok (.arraylength, 1) := by decide +kernel
theorem dJ0_length_8abf5_5 : decode cJ0_length_8abf5 5 = .ok (.aload_n 0, 1) := by decide +kernel
theorem dJ0_length_8abf5_6 : decode cJ0_length_8abf5 6 = .ok (.invokevirtual 335, 3) := by decide +kernel
theorem dJ0_length_8abf5_9 : decode cJ0_length_8abf5 9 = .ok (.ishr, 1) := by decide +kernel
theorem dJ0_length_8abf5_10 : decode cJ0_length_8abf5 10 = .ok (.ireturn, 1) := by decide +kernel
theorem dJ0_charAt_5068e_0 : decode cJ0_charAt_5068e 0 = .ok (.aload_n 0, 1) := by decide +kernel
theorem dJ0_charAt_5068e_1 : decode cJ0_charAt_5068e 1 = .ok (.invokevirtual 492, 3) := by decide +kernel
theorem dJ0_charAt_5068e_4 : decode cJ0_charAt_5068e 4 = .ok (.ifCond .eq 12, 3) := by decide +kernel
theorem dJ0_charAt_5068e_7 : decode cJ0_charAt_5068e 7 = .ok (.aload_n 0, 1) := by decide +kernel
theorem dJ0_charAt_5068e_8 : decode cJ0_charAt_5068e 8 = .ok (.getfield 9, 3) := by decide +kernel
theorem dJ0_charAt_5068e_11 : decode cJ0_charAt_5068e 11 = .ok (.iload_n 1, 1) := by decide +kernel
theorem dJ0_charAt_5068e_12 : decode cJ0_charAt_5068e 12 = .ok (.invokestatic 495, 3) := by decide +kernel
theorem dJ0_charAt_5068e_15 : decode cJ0_charAt_5068e 15 = .ok (.ireturn, 1) := by decide +kernel
theorem dJ0_charAt_5068e_16 : decode cJ0_charAt_5068e 16 = .ok (.aload_n 0, 1) := by decide +kernel
theorem dJ0_charAt_5068e_17 : decode cJ0_charAt_5068e 17 = .ok (.getfield 9, 3) := by decide +kernel
theorem dJ0_charAt_5068e_20 : decode cJ0_charAt_5068e 20 = .ok (.iload_n 1, 1) := by decide +kernel
theorem dJ0_charAt_5068e_21 : decode cJ0_charAt_5068e 21 = .ok (.invokestatic 498, 3) := by decide +kernel
theorem dJ0_charAt_5068e_24 : decode cJ0_charAt_5068e 24 = .ok (.ireturn, 1) := by decide +kernel
theorem dJ0_coder_7d493_0 : decode cJ0_coder_7d493 0 = .ok (.getstatic 38, 3) := by decide +kernel
theorem dJ0_coder_7d493_3 : decode cJ0_coder_7d493 3 = .ok (.ifCond .eq 10, 3) := by decide +kernel
theorem dJ0_coder_7d493_6 : decode cJ0_coder_7d493 6 = .ok (.aload_n 0, 1) := by decide +kernel
theorem dJ0_coder_7d493_7 : decode cJ0_coder_7d493 7 = .ok (.getfield 15, 3) := by decide +kernel
theorem dJ0_coder_7d493_10 : decode cJ0_coder_7d493 10 = .ok (.goto 4, 3) := by decide +kernel
theorem dJ0_coder_7d493_13 : decode cJ0_coder_7d493 13 = .ok (.iconst 1, 1) := by decide +kernel
theorem dJ0_coder_7d493_14 : decode cJ0_coder_7d493 14 = .ok (.ireturn, 1) := by decide +kernel
theorem dJ0_isLatin1_aae02_0 : decode cJ0_isLatin1_aae02 0 = .ok (.getstatic 38, 3) := by decide +kernel
theorem dJ0_isLatin1_aae02_3 : decode cJ0_isLatin1_aae02 3 = .ok (.ifCond .eq 14, 3) := by decide +kernel
theorem dJ0_isLatin1_aae02_6 : decode cJ0_isLatin1_aae02 6 = .ok (.aload_n 0, 1) := by decide +kernel
theorem dJ0_isLatin1_aae02_7 : decode cJ0_isLatin1_aae02 7 = .ok (.getfield 15, 3) := by decide +kernel
theorem dJ0_isLatin1_aae02_10 : decode cJ0_isLatin1_aae02 10 = .ok (.ifCond .ne 7, 3) := by decide +kernel
theorem dJ0_isLatin1_aae02_13 : decode cJ0_isLatin1_aae02 13 = .ok (.iconst 1, 1) := by decide +kernel
theorem dJ0_isLatin1_aae02_14 : decode cJ0_isLatin1_aae02 14 = .ok (.goto 4, 3) := by decide +kernel
theorem dJ0_isLatin1_aae02_17 : decode cJ0_isLatin1_aae02 17 = .ok (.iconst 0, 1) := by decide +kernel
theorem dJ0_isLatin1_aae02_18 : decode cJ0_isLatin1_aae02 18 = .ok (.ireturn, 1) := by decide +kernel
theorem dJ0_checkIndex_df160_0 : decode cJ0_checkIndex_df160 0 = .ok (.iload_n 0, 1) := by decide +kernel
theorem dJ0_checkIndex_df160_1 : decode cJ0_checkIndex_df160 1 = .ok (.iload_n 1, 1) := by decide +kernel
theorem dJ0_checkIndex_df160_2 : decode cJ0_checkIndex_df160 2 = .ok (.getstatic 1053, 3) := by decide +kernel
theorem dJ0_checkIndex_df160_5 : decode cJ0_checkIndex_df160 5 = .ok (.invokestatic 1059, 3) := by decide +kernel
theorem dJ0_checkIndex_df160_8 : decode cJ0_checkIndex_df160 8 = .ok (.pop, 1) := by decide +kernel
theorem dJ0_checkIndex_df160_9 : decode cJ0_checkIndex_df160 9 = .ok (.return_, 1) := by decide +kernel
theorem dJ1_charAt_3b067_0 : decode cJ1_charAt_3b067 0 = .ok (.iload_n 1, 1) := by decide +kernel
theorem dJ1_charAt_3b067_1 : decode cJ1_charAt_3b067 1 = .ok (.aload_n 0, 1) := by decide +kernel
theorem dJ1_charAt_3b067_2 : decode cJ1_charAt_3b067 2 = .ok (.arraylength, 1) := by decide +kernel
theorem dJ1_charAt_3b067_3 : decode cJ1_charAt_3b067 3 = .ok (.invokestatic 9, 3) := by decide +kernel
theorem dJ1_charAt_3b067_6 : decode cJ1_charAt_3b067 6 = .ok (.aload_n 0, 1) := by decide +kernel
theorem dJ1_charAt_3b067_7 : decode cJ1_charAt_3b067 7 = .ok (.iload_n 1, 1) := by decide +kernel
theorem dJ1_charAt_3b067_8 : decode cJ1_charAt_3b067 8 = .ok (.baload, 1) := by decide +kernel
theorem dJ1_charAt_3b067_9 : decode cJ1_charAt_3b067 9 = .ok (.sipush 255, 3) := by decide +kernel
theorem dJ1_charAt_3b067_12 : decode cJ1_charAt_3b067 12 = .ok (.iand, 1) := by decide +kernel
theorem dJ1_charAt_3b067_13 : decode cJ1_charAt_3b067 13 = .ok (.i2c, 1) := by decide +kernel
theorem dJ1_charAt_3b067_14 : decode cJ1_charAt_3b067 14 = .ok (.ireturn, 1) := by decide +kernel
theorem dJ3_checkIndex_8e157_0 : decode cJ3_checkIndex_8e157 0 = .ok (.iload_n 0, 1) := by decide +kernel
theorem dJ3_checkIndex_8e157_1 : decode cJ3_checkIndex_8e157 1 = .ok (.ifCond .lt 8, 3) := by decide +kernel
theorem dJ3_checkIndex_8e157_4 : decode cJ3_checkIndex_8e157 4 = .ok (.iload_n 0, 1) := by decide +kernel
theorem dJ3_checkIndex_8e157_5 : decode cJ3_checkIndex_8e157 5 = .ok (.iload_n 1, 1) := by decide +kernel
theorem dJ3_checkIndex_8e157_6 : decode cJ3_checkIndex_8e157 6 = .ok (.if_icmp .lt 10, 3) := by decide +kernel
theorem dJ3_checkIndex_8e157_9 : decode cJ3_checkIndex_8e157 9 = .ok (.aload_n 2, 1) := by decide +kernel
theorem dJ3_checkIndex_8e157_10 : decode cJ3_checkIndex_8e157 10 = .ok (.iload_n 0, 1) := by decide +kernel
theorem dJ3_checkIndex_8e157_11 : decode cJ3_checkIndex_8e157 11 = .ok (.iload_n 1, 1) := by decide +kernel
theorem dJ3_checkIndex_8e157_12 : decode cJ3_checkIndex_8e157 12 = .ok (.invokestatic 95, 3) := by decide +kernel
theorem dJ3_checkIndex_8e157_15 : decode cJ3_checkIndex_8e157 15 = .ok (.athrow, 1) := by decide +kernel
theorem dJ3_checkIndex_8e157_16 : decode cJ3_checkIndex_8e157 16 = .ok (.iload_n 0, 1) := by decide +kernel
theorem dJ3_checkIndex_8e157_17 : decode cJ3_checkIndex_8e157 17 = .ok (.ireturn, 1) := by decide +kernel
abbrev a_jw (y : MethodName) (cc : ByteArray) (n : Nat) (r : Option FieldType) : List Cond := .code y cc n r :: lw_good
theorem a_lg {w : Cond} (h : w ∈ lw_good) : (w.onTables && w.keeps) = true ∨ ∃ ty, w = .arrayClass ty := good_of_word (List.mem_filter.mp h).2
theorem a_gV {w0 : Cond} {own C : String} {n : Nat} {y : MethodName} {w1 : Cond} (h1 : .methodLink own n y ∈ lw_good) (h2 : .instanceMethod y ∈ lw_good) (h3 : .selects C y y ∈ lw_good) (h4 : .initialized C ∈ lw_good) (h5 : w1 ∈ lw_good) : GoodIn (w0 :: lw_good) (wsV own n C y (w1 :: lw_good)) := by
  intro w hw
  have : w ∈ lw_good := by
    simp only [wsV, List.mem_append, List.mem_cons, List.not_mem_nil, or_false] at hw
    rcases hw with (rfl | rfl | rfl | rfl) | rfl | hw <;> assumption
  exact ⟨List.mem_cons_of_mem _ this, a_lg this⟩
theorem a_gS {w0 : Cond} {own : String} {n : Nat} {y : MethodName} {w1 : Cond} (h1 : .methodLink own n y ∈ lw_good) (h2 : .static y ∈ lw_good) (h4 : .initialized y.cls ∈ lw_good) (h5 : w1 ∈ lw_good) : GoodIn (w0 :: lw_good) (va_wsS own n y (w1 :: lw_good)) := by
  intro w hw
  have : w ∈ lw_good := by
    simp only [va_wsS, List.mem_append, List.mem_cons, List.not_mem_nil, or_false] at hw
    rcases hw with (rfl | rfl | rfl) | rfl | hw <;> assumption
  exact ⟨List.mem_cons_of_mem _ this, a_lg this⟩
def a_St (xs : Nat → Int32) (adK adV : Nat → Nat) (U : State) : Prop := vk_S (a_tn xs) (a_sl xs) (a_sb xs) adK adV (fun _ => False) U U.heap ∧ va_Z "java/lang/String" "COMPACT_STRINGS" "Z" (.int 1) (fun _ => False) U U.heap ∧ va_Zq "jdk/internal/util/Preconditions" "SIOOBE_FORMATTER" "Ljava/util/function/BiFunction;" (fun _ => False) U U.heap
theorem a_St.to {xs : Nat → Int32} {adK adV : Nat → Nat} {s U : State} (h : a_St xs adK adV s) (hU : U.heap = s.heap) (ha : s.vm.Alike U.vm) : a_St xs adK adV U := by
  unfold a_St
  rw [hU]
  exact ⟨h.1.moved ha, h.2.1.moved ha, h.2.2.moved ha⟩
theorem a_St_blind {xs : Nat → Int32} {adK adV : Nat → Nat} {vs : List Value} : FrameBlind (va_Pc vs (a_St xs adK adV)) := fun a U g mk q => ⟨q.1, q.2.to rfl (Vm.Alike.refl U.vm)⟩
def a_QcN : Array Value → State → Outcome → State → Prop := fun _ st o t => o = .returned none ∧ t.heap = st.heap
set_option maxRecDepth 100000 in
theorem j_coder (l : Launch) (xs : Nat → Int32) (adK adV : Nat → Nat) {i : Nat} (hi : i < a_tn xs) : Met l yJ0_coder_7d493 (a_jw yJ0_coder_7d493 cJ0_coder_7d493 1 (some .byte)) ({ frames := 0, cells := 0, slots := 0, locals := 0 }) (va_Pc [.ref (adK i)] (a_St xs adK adV)) (QcRead 0) 0 0 (fun _ => False) := by
  refine Met.ofW (cc := cJ0_coder_7d493) (maxL := 1) (ret := some .byte) (by decide) rfl ?_
  intro p e s m args below meth c s₁ B hml hv
  obtain ⟨rfl, hS0, hZ, hZq⟩ := hv
  have hx := B.exec
  have hb := B.bytes
  have hr := B.returns
  have hts := atoms_spec (ws := a_jw yJ0_coder_7d493 cJ0_coder_7d493 1 (some .byte)) B.pre
  have htg : ∀ w ∈ lw_good, w.before _ s = true := fun w h => hts w (List.mem_cons_of_mem _ h)
  have hown : s.vm.findClass RJ0 = some m.cls := findClass_of_methodNamed B.named
  have hlocks := B.notSynchronized
  have hS : va_S (fun _ => False) s.heap s.heap [] := va_S.rf
  have hl := lv_entry ([.ref (adK i)]) (n := 1) (Nat.le_of_ble_eq_true rfl)
  rw [lg_entry_eq]
  generalize (lg_sl ([.ref (adK i)]) ++ List.replicate (1 - (lg_sl ([.ref (adK i)])).length) Slot.unset).toArray = ls at hl ⊢
  have hl : lv_has ls 1 [(0, .ref (adK i))] := hl
  refine va_gets hx hb hZ hS hown (htg _ (a_jm _ (List.mem_of_getElem? (i := 0) rfl))) (fun _ h => h) dJ0_coder_7d493_0 ?_
  refine lv_if_eq (tgt := 13) hx hb dJ0_coder_7d493_3 (by decide) (fun h => absurd h (by decide)) (fun _ => ?_)
  refine lv_aload_n hx hb dJ0_coder_7d493_6 rfl (lv_at hl 0 rfl) ?_
  refine vk_getf hx hb (hS0.1 i hi).2.1 hS hown (htg _ (a_jm _ (List.mem_of_getElem? (i := 1) rfl))) (fun _ h => h) dJ0_coder_7d493_7 ?_
  refine lv_goto (tgt := 14) hx hb dJ0_coder_7d493_10 (by decide) ?_
  exact W.zret hx hb hr rfl (fun t ht _ => ⟨rfl, ht⟩) (fun q h => nomatch h) dJ0_coder_7d493_14
set_option maxRecDepth 100000 in
theorem j_isLatin1 (l : Launch) (xs : Nat → Int32) (adK adV : Nat → Nat) {i : Nat} (hi : i < a_tn xs) : Met l yJ0_isLatin1_aae02 (a_jw yJ0_isLatin1_aae02 cJ0_isLatin1_aae02 1 (some .boolean)) ({ frames := 0, cells := 0, slots := 0, locals := 0 }) (va_Pc [.ref (adK i)] (a_St xs adK adV)) (QcRead 1) 0 0 (fun _ => False) := by
  refine Met.ofW (cc := cJ0_isLatin1_aae02) (maxL := 1) (ret := some .boolean) (by decide) rfl ?_
  intro p e s m args below meth c s₁ B hml hv
  obtain ⟨rfl, hS0, hZ, hZq⟩ := hv
  have hx := B.exec
  have hb := B.bytes
  have hr := B.returns
  have hts := atoms_spec (ws := a_jw yJ0_isLatin1_aae02 cJ0_isLatin1_aae02 1 (some .boolean)) B.pre
  have htg : ∀ w ∈ lw_good, w.before _ s = true := fun w h => hts w (List.mem_cons_of_mem _ h)
  have hown : s.vm.findClass RJ0 = some m.cls := findClass_of_methodNamed B.named
  have hlocks := B.notSynchronized
  have hS : va_S (fun _ => False) s.heap s.heap [] := va_S.rf
  have hl := lv_entry ([.ref (adK i)]) (n := 1) (Nat.le_of_ble_eq_true rfl)
  rw [lg_entry_eq]
  generalize (lg_sl ([.ref (adK i)]) ++ List.replicate (1 - (lg_sl ([.ref (adK i)])).length) Slot.unset).toArray = ls at hl ⊢
  have hl : lv_has ls 1 [(0, .ref (adK i))] := hl
  refine va_gets hx hb hZ hS hown (htg _ (a_jm _ (List.mem_of_getElem? (i := 0) rfl))) (fun _ h => h) dJ0_isLatin1_aae02_0 ?_
  refine lv_if_eq (tgt := 17) hx hb dJ0_isLatin1_aae02_3 (by decide) (fun h => absurd h (by decide)) (fun _ => ?_)
  refine lv_aload_n hx hb dJ0_isLatin1_aae02_6 rfl (lv_at hl 0 rfl) ?_
  refine vk_getf hx hb (hS0.1 i hi).2.1 hS hown (htg _ (a_jm _ (List.mem_of_getElem? (i := 1) rfl))) (fun _ h => h) dJ0_isLatin1_aae02_7 ?_
  refine lv_if_ne (tgt := 17) hx hb dJ0_isLatin1_aae02_10 (by decide) (fun h => absurd rfl h) (fun _ => ?_)
  refine lv_iconst (v := 1) hx hb dJ0_isLatin1_aae02_13 (by decide) ?_
  refine lv_goto (tgt := 18) hx hb dJ0_isLatin1_aae02_14 (by decide) ?_
  exact W.zret hx hb hr rfl (fun t ht _ => ⟨rfl, ht⟩) (fun q h => nomatch h) dJ0_isLatin1_aae02_18
set_option maxRecDepth 100000 in
theorem j_length (l : Launch) (xs : Nat → Int32) (adK adV : Nat → Nat) {i : Nat} (hi : i < a_tn xs) : Met l yJ0_length_8abf5 (a_jw yJ0_length_8abf5 cJ0_length_8abf5 1 (some .int)) ({ frames := 1, cells := 0, slots := 0, locals := 20 }) (va_Pc [.ref (adK i)] (a_St xs adK adV)) (QcRead (nI ((a_sl xs).getD i 0))) 0 0 (fun _ => False) := by
  refine Met.ofW (cc := cJ0_length_8abf5) (maxL := 1) (ret := some .int) (by decide) rfl ?_
  intro p e s m args below meth c s₁ B hml hv
  obtain ⟨rfl, hS9⟩ := id hv
  obtain ⟨hS0, hZ, hZq⟩ := id hS9
  have hx := B.exec
  have hb := B.bytes
  have hr := B.returns
  have hts := atoms_spec (ws := a_jw yJ0_length_8abf5 cJ0_length_8abf5 1 (some .int)) B.pre
  have htg : ∀ w ∈ lw_good, w.before _ s = true := fun w h => hts w (List.mem_cons_of_mem _ h)
  have hown : s.vm.findClass RJ0 = some m.cls := findClass_of_methodNamed B.named
  have hlocks := B.notSynchronized
  have hS : va_S (fun _ => False) s.heap s.heap [] := va_S.rf
  have hl := lv_entry ([.ref (adK i)]) (n := 1) (Nat.le_of_ble_eq_true rfl)
  rw [lg_entry_eq]
  generalize (lg_sl ([.ref (adK i)]) ++ List.replicate (1 - (lg_sl ([.ref (adK i)])).length) Slot.unset).toArray = ls at hl ⊢
  have hl : lv_has ls 1 [(0, .ref (adK i))] := hl
  refine lv_aload_n hx hb dJ0_length_8abf5_0 rfl (lv_at hl 0 rfl) ?_
  refine vk_getf hx hb (hS0.1 i hi).2.2.1 hS hown (htg _ (a_jm _ (List.mem_of_getElem? (i := 2) rfl))) (fun _ h => h) dJ0_length_8abf5_1 ?_
  refine va_tlen hx hb (hS0.1 i hi).2.2.2 hS rfl dJ0_length_8abf5_4 ?_
  refine lv_aload_n hx hb dJ0_length_8abf5_5 rfl (lv_at hl 0 rfl) ?_
  refine W.callR (W.runV (As := []) (rest := [.int (Int32.ofNat ((a_sl xs).getD i 0))]) ⟨hx, hb, hml, hown, hts⟩ (j_coder l xs adK adV hi) (cwV 0 hts (a_gV (a_jm _ (List.mem_of_getElem? (i := 4) rfl)) (a_jm _ (List.mem_of_getElem? (i := 9) rfl)) (a_jm _ (List.mem_of_getElem? (i := 10) rfl)) (a_jm _ (List.mem_of_getElem? (i := 27) rfl)) (a_jm _ (List.mem_of_getElem? (i := 20) rfl))) rfl rfl rfl (by decide +kernel) ⟨Nat.le_of_ble_eq_true rfl, Nat.le_of_ble_eq_true rfl⟩)
    ⟨a_St_blind, vk_recv hS0 hi hS, fun U hU hW => ⟨rfl, hS9.to hU hW.alike⟩⟩ rfl rfl hl.1 rfl (lv_room (Nat.le_of_ble_eq_true rfl)) dJ0_length_8abf5_6 ⟨Nat.zero_le _, Nat.zero_le _⟩) ?_
  refine lv_ishr hx hb dJ0_length_8abf5_9 ?_
  refine W.iret (v := Int32.ofNat ((a_sl xs).getD i 0) >>> ((0 : Int32) &&& 31)) hx hb hr (fun t ht _ => ⟨?_, ht⟩) (fun q h => nomatch h) dJ0_length_8abf5_10
  rw [show Int32.ofNat ((a_sl xs).getD i 0) >>> ((0 : Int32) &&& 31) = nI ((a_sl xs).getD i 0) from sc_shr0 (a_sl_31 xs hi)]
set_option maxRecDepth 100000 in
theorem j_ci3 (l : Launch) (k : Int32) (n : Nat) (f : Value) (hf : f = .null ∨ ∃ t, f = .ref t) (hk : ¬ (k < 0 ∨ n ≤ k.toNatClampNeg)) (hn : n < 2 ^ 31) : Met l yJ3_checkIndex_8e157 (a_jw yJ3_checkIndex_8e157 cJ3_checkIndex_8e157 3 (some .int)) ({ frames := 0, cells := 0, slots := 0, locals := 0 }) (va_Pc [.int k, .int (Int32.ofNat n), f] (fun _ => True)) (QcRead k) 0 0 (fun _ => False) := by
  refine Met.ofW (cc := cJ3_checkIndex_8e157) (maxL := 3) (ret := some .int) (by decide) rfl ?_
  intro p e s m args below meth c s₁ B hml hv
  obtain ⟨rfl, -⟩ := hv
  have hx := B.exec
  have hb := B.bytes
  have hr := B.returns
  have hlocks := B.notSynchronized
  have hl := lv_entry ([.int k, .int (Int32.ofNat n), f]) (n := 3) (by rcases hf with rfl | ⟨t, rfl⟩ <;> exact Nat.le_of_ble_eq_true rfl)
  rw [lg_entry_eq]
  generalize (lg_sl ([.int k, .int (Int32.ofNat n), f]) ++ List.replicate (3 - (lg_sl ([.int k, .int (Int32.ofNat n), f])).length) Slot.unset).toArray = ls at hl ⊢
  have hl : lv_has ls 3 [(0, .int k), (1, .int (Int32.ofNat n))] := ⟨hl.1, hl.2.1, fun q hq => hl.2.2 q (by
    simp only [List.mem_cons, List.not_mem_nil, or_false] at hq
    rcases hq with rfl | rfl <;> simp [lv_args, Value.category])⟩
  have hlt : k < Int32.ofNat n := by
    obtain ⟨j, hj, rfl⟩ := vp_in_of (x := k) (n := n) hk hn
    exact nI_lt hj hn
  refine lv_iload_n hx hb dJ3_checkIndex_8e157_0 rfl (lv_at hl 0 rfl) ?_
  refine lv_if_lt (tgt := 9) hx hb dJ3_checkIndex_8e157_1 (by decide) (fun h => absurd (Or.inl h) hk) (fun _ => ?_)
  refine lv_iload_n hx hb dJ3_checkIndex_8e157_4 rfl (lv_at hl 0 rfl) ?_
  refine lv_iload_n hx hb dJ3_checkIndex_8e157_5 rfl (lv_at hl 1 rfl) ?_
  refine lv_icmp_lt (tgt := 16) hx hb dJ3_checkIndex_8e157_6 (by decide) (fun _ => ?_) (fun h => absurd hlt h)
  refine lv_iload_n hx hb dJ3_checkIndex_8e157_16 rfl (lv_at hl 0 rfl) ?_
  exact W.iret hx hb hr (fun t ht _ => ⟨rfl, ht⟩) (fun q h => nomatch h) dJ3_checkIndex_8e157_17
set_option maxRecDepth 100000 in
theorem j_ci (l : Launch) (xs : Nat → Int32) (adK adV : Nat → Nat) (k : Int32) (n : Nat) (hk : ¬ (k < 0 ∨ n ≤ k.toNatClampNeg)) (hn : n < 2 ^ 31) : Met l yJ0_checkIndex_df160 (a_jw yJ0_checkIndex_df160 cJ0_checkIndex_df160 2 none) ({ frames := 1, cells := 0, slots := 0, locals := 22 }) (va_Pc [.int k, .int (Int32.ofNat n)] (a_St xs adK adV)) a_QcN 0 0 (fun _ => False) := by
  refine Met.ofW (cc := cJ0_checkIndex_df160) (maxL := 2) (ret := none) (by decide) rfl ?_
  intro p e s m args below meth c s₁ B hml hv
  obtain ⟨rfl, hS9⟩ := id hv
  obtain ⟨hS0, hZ, hZq⟩ := id hS9
  have hx := B.exec
  have hb := B.bytes
  have hr := B.returns
  have hts := atoms_spec (ws := a_jw yJ0_checkIndex_df160 cJ0_checkIndex_df160 2 none) B.pre
  have htg : ∀ w ∈ lw_good, w.before _ s = true := fun w h => hts w (List.mem_cons_of_mem _ h)
  have hown : s.vm.findClass RJ0 = some m.cls := findClass_of_methodNamed B.named
  have hlocks := B.notSynchronized
  have hS : va_S (fun _ => False) s.heap s.heap [] := va_S.rf
  have hl := lv_entry ([.int k, .int (Int32.ofNat n)]) (n := 2) (Nat.le_of_ble_eq_true rfl)
  rw [lg_entry_eq]
  generalize (lg_sl ([.int k, .int (Int32.ofNat n)]) ++ List.replicate (2 - (lg_sl ([.int k, .int (Int32.ofNat n)])).length) Slot.unset).toArray = ls at hl ⊢
  have hl : lv_has ls 2 [(0, .int k), (1, .int (Int32.ofNat n))] := hl
  refine lv_iload_n hx hb dJ0_checkIndex_df160_0 rfl (lv_at hl 0 rfl) ?_
  refine lv_iload_n hx hb dJ0_checkIndex_df160_1 rfl (lv_at hl 1 rfl) ?_
  have go : ∀ f : Value, (f = .null ∨ ∃ t, f = .ref t) → va_Z "jdk/internal/util/Preconditions" "SIOOBE_FORMATTER" "Ljava/util/function/BiFunction;" f (fun _ => False) s s.heap → W p l e (headSpec (a_jw yJ0_checkIndex_df160 cJ0_checkIndex_df160 2 none) { frames := 1, cells := 0, slots := 0, locals := 22 }).room s m ([Value.int k, Value.int (Int32.ofNat n)].toArray) below meth c s.heap [] 0 0 (MQ below a_QcN ([Value.int k, Value.int (Int32.ofNat n)].toArray) s 0 0 (fun _ => False)) (F0 m 2 ls [.int (Int32.ofNat n), .int k]) := by
    intro f hfc hZf
    refine va_gets hx hb hZf hS hown (htg _ (a_jm _ (List.mem_of_getElem? (i := 3) rfl))) (fun _ h => h) dJ0_checkIndex_df160_2 ?_
    refine W.callR (W.runS (As := [.int k, .int (Int32.ofNat n), f]) (rest := []) ⟨hx, hb, hml, hown, hts⟩ (j_ci3 l k n f hfc hk hn) (va_cwS 3 hts (a_gS (a_jm _ (List.mem_of_getElem? (i := 8) rfl)) (a_jm _ (List.mem_of_getElem? (i := 19) rfl)) (a_jm _ (List.mem_of_getElem? (i := 29) rfl)) (a_jm _ (List.mem_of_getElem? (i := 26) rfl))) rfl rfl rfl (by decide +kernel) ⟨Nat.le_of_ble_eq_true rfl, Nat.le_of_ble_eq_true rfl⟩)
      ⟨fun a U g mk q => q, fun U hU hW => ⟨rfl, trivial⟩⟩ rfl rfl hl.1 rfl (lv_room (Nat.le_of_ble_eq_true rfl)) dJ0_checkIndex_df160_5 ⟨Nat.zero_le _, Nat.zero_le _⟩) ?_
    refine lv_pop hx hb dJ0_checkIndex_df160_8 rfl ?_
    exact W.vret hx hb hr (fun t ht _ => ⟨rfl, ht⟩) (fun q h => nomatch h) dJ0_checkIndex_df160_9
  rcases hZq with hZf | ⟨t9, hZf⟩
  · exact go .null (Or.inl rfl) hZf
  · exact go (.ref t9) (Or.inr ⟨t9, rfl⟩) hZf
theorem a_callN {p : Program} {l : Launch} {e : Env} {R : Room} {s : State} {m : MethodId} {args : Array Value} {below : List Frame} {meth : Method} {c : Code} {H : Heap} {locs : List Loc} {cells slots : Nat} {Q : State → Prop} {g : JFrame} {rest : List Value} {a : Array Value} (hr : CallRun p l e R s m args below meth c H locs cells slots 0 0 g rest (a_QcN a) (fun _ => False)) (kk : W p l e R s m args below meth c H locs cells slots Q { g with pc := g.pc + 3, stack := rest }) : W p l e R s m args below meth c H locs cells slots Q g := by
  intro T hT X
  obtain ⟨v, st₀, t, T', L, h0, X', hL, e1, ⟨hq, h9⟩, st⟩ := hr T hT X
  cases hq
  have hL0 : L = [] := by
    cases L with
    | nil => rfl
    | cons z L => exact absurd (hL z List.mem_cons_self) id
  subst hL0
  rw [List.append_nil] at X'
  obtain ⟨t2, a1, b1⟩ := kk T' (by rw [e1, h9, h0]) X'
  exact ⟨t2, st t2 a1, b1⟩
set_option maxRecDepth 100000 in
theorem j_ch1 (l : Launch) (xs : Nat → Int32) (adK adV : Nat → Nat) {i : Nat} (hi : i < a_tn xs) (k : Int32) (hk : ¬ (k < 0 ∨ (a_sl xs).getD i 0 ≤ k.toNatClampNeg)) : Met l yJ1_charAt_3b067 (a_jw yJ1_charAt_3b067 cJ1_charAt_3b067 2 (some .char)) ({ frames := 2, cells := 0, slots := 0, locals := 43 }) (va_Pc [.ref (adV i), .int k] (a_St xs adK adV)) (QcRead (((a_sb xs).getD i []).getD k.toNatClampNeg 0 &&& 255)) 0 0 (fun _ => False) := by
  refine Met.ofW (cc := cJ1_charAt_3b067) (maxL := 2) (ret := some .char) (by decide) rfl ?_
  intro p e s m args below meth c s₁ B hml hv
  obtain ⟨rfl, hS9⟩ := id hv
  obtain ⟨hS0, hZ, hZq⟩ := id hS9
  have hx := B.exec
  have hb := B.bytes
  have hr := B.returns
  have hts := atoms_spec (ws := a_jw yJ1_charAt_3b067 cJ1_charAt_3b067 2 (some .char)) B.pre
  have hown : s.vm.findClass RJ1 = some m.cls := findClass_of_methodNamed B.named
  have hlocks := B.notSynchronized
  have hS : va_S (fun _ => False) s.heap s.heap [] := va_S.rf
  have hl := lv_entry ([.ref (adV i), .int k]) (n := 2) (Nat.le_of_ble_eq_true rfl)
  rw [lg_entry_eq]
  generalize (lg_sl ([.ref (adV i), .int k]) ++ List.replicate (2 - (lg_sl ([.ref (adV i), .int k])).length) Slot.unset).toArray = ls at hl ⊢
  have hl : lv_has ls 2 [(0, .ref (adV i)), (1, .int k)] := hl
  have hn : (a_sl xs).getD i 0 < 2 ^ 31 := by
    exact a_sl_31 xs hi
  refine lv_iload_n hx hb dJ1_charAt_3b067_0 rfl (lv_at hl 1 rfl) ?_
  refine lv_aload_n hx hb dJ1_charAt_3b067_1 rfl (lv_at hl 0 rfl) ?_
  refine va_tlen hx hb (hS0.1 i hi).2.2.2 hS rfl dJ1_charAt_3b067_2 ?_
  refine a_callN (W.runS (As := [.int k, .int (Int32.ofNat ((a_sl xs).getD i 0))]) (rest := []) ⟨hx, hb, hml, hown, hts⟩ (j_ci l xs adK adV k ((a_sl xs).getD i 0) hk hn) (va_cwS 2 hts (a_gS (a_jm _ (List.mem_of_getElem? (i := 7) rfl)) (a_jm _ (List.mem_of_getElem? (i := 18) rfl)) (a_jm _ (List.mem_of_getElem? (i := 27) rfl)) (a_jm _ (List.mem_of_getElem? (i := 24) rfl))) rfl rfl rfl (by decide +kernel) ⟨Nat.le_of_ble_eq_true rfl, Nat.le_of_ble_eq_true rfl⟩)
    ⟨a_St_blind, fun U hU hW => ⟨rfl, hS9.to hU hW.alike⟩⟩ rfl rfl hl.1 rfl (lv_room (Nat.le_of_ble_eq_true rfl)) dJ1_charAt_3b067_3 ⟨Nat.zero_le _, Nat.zero_le _⟩) ?_
  refine lv_aload_n hx hb dJ1_charAt_3b067_6 rfl (lv_at hl 0 rfl) ?_
  refine lv_iload_n hx hb dJ1_charAt_3b067_7 rfl (lv_at hl 1 rfl) ?_
  refine va_tb hx hb (hS0.1 i hi).2.2.2 hS hk rfl dJ1_charAt_3b067_8 ?_
  refine lv_sipush (v := 255) hx hb dJ1_charAt_3b067_9 (by decide) ?_
  refine lv_iand hx hb dJ1_charAt_3b067_12 ?_
  refine lv_i2c (v := ((a_sb xs).getD i []).getD k.toNatClampNeg 0 &&& 255) hx hb dJ1_charAt_3b067_13 (sc_c2 _) ?_
  exact W.zret hx hb hr (sc_nar _) (fun t ht _ => ⟨rfl, ht⟩) (fun q h => nomatch h) dJ1_charAt_3b067_14
set_option maxRecDepth 100000 in
theorem j_charAt (l : Launch) (xs : Nat → Int32) (adK adV : Nat → Nat) {i : Nat} (hi : i < a_tn xs) (k : Int32) (hk : ¬ (k < 0 ∨ (a_sl xs).getD i 0 ≤ k.toNatClampNeg)) : Met l yJ0_charAt_5068e (a_jw yJ0_charAt_5068e cJ0_charAt_5068e 2 (some .char)) ({ frames := 3, cells := 0, slots := 0, locals := 64 }) (va_Pc [.ref (adK i), .int k] (a_St xs adK adV)) (QcRead (((a_sb xs).getD i []).getD k.toNatClampNeg 0 &&& 255)) 0 0 (fun _ => False) := by
  refine Met.ofW (cc := cJ0_charAt_5068e) (maxL := 2) (ret := some .char) (by decide) rfl ?_
  intro p e s m args below meth c s₁ B hml hv
  obtain ⟨rfl, hS9⟩ := id hv
  obtain ⟨hS0, hZ, hZq⟩ := id hS9
  have hx := B.exec
  have hb := B.bytes
  have hr := B.returns
  have hts := atoms_spec (ws := a_jw yJ0_charAt_5068e cJ0_charAt_5068e 2 (some .char)) B.pre
  have htg : ∀ w ∈ lw_good, w.before _ s = true := fun w h => hts w (List.mem_cons_of_mem _ h)
  have hown : s.vm.findClass RJ0 = some m.cls := findClass_of_methodNamed B.named
  have hlocks := B.notSynchronized
  have hS : va_S (fun _ => False) s.heap s.heap [] := va_S.rf
  have hl := lv_entry ([.ref (adK i), .int k]) (n := 2) (Nat.le_of_ble_eq_true rfl)
  rw [lg_entry_eq]
  generalize (lg_sl ([.ref (adK i), .int k]) ++ List.replicate (2 - (lg_sl ([.ref (adK i), .int k])).length) Slot.unset).toArray = ls at hl ⊢
  have hl : lv_has ls 2 [(0, .ref (adK i)), (1, .int k)] := hl
  refine lv_aload_n hx hb dJ0_charAt_5068e_0 rfl (lv_at hl 0 rfl) ?_
  refine W.callR (W.runV (As := []) (rest := []) ⟨hx, hb, hml, hown, hts⟩ (j_isLatin1 l xs adK adV hi) (cwV 0 hts (a_gV (a_jm _ (List.mem_of_getElem? (i := 5) rfl)) (a_jm _ (List.mem_of_getElem? (i := 11) rfl)) (a_jm _ (List.mem_of_getElem? (i := 12) rfl)) (a_jm _ (List.mem_of_getElem? (i := 27) rfl)) (a_jm _ (List.mem_of_getElem? (i := 22) rfl))) rfl rfl rfl (by decide +kernel) ⟨Nat.le_of_ble_eq_true rfl, Nat.le_of_ble_eq_true rfl⟩)
    ⟨a_St_blind, vk_recv hS0 hi hS, fun U hU hW => ⟨rfl, hS9.to hU hW.alike⟩⟩ rfl rfl hl.1 rfl (lv_room (Nat.le_of_ble_eq_true rfl)) dJ0_charAt_5068e_1 ⟨Nat.zero_le _, Nat.zero_le _⟩) ?_
  refine lv_if_eq (tgt := 16) hx hb dJ0_charAt_5068e_4 rfl (fun h => absurd h (by decide)) (fun _ => ?_)
  refine lv_aload_n hx hb dJ0_charAt_5068e_7 rfl (lv_at hl 0 rfl) ?_
  refine vk_getf hx hb (hS0.1 i hi).2.2.1 hS hown (htg _ (a_jm _ (List.mem_of_getElem? (i := 2) rfl))) (fun _ h => h) dJ0_charAt_5068e_8 ?_
  refine lv_iload_n hx hb dJ0_charAt_5068e_11 rfl (lv_at hl 1 rfl) ?_
  refine W.callR (W.runS (As := [.ref (adV i), .int k]) (rest := []) ⟨hx, hb, hml, hown, hts⟩ (j_ch1 l xs adK adV hi k hk) (va_cwS 2 hts (a_gS (a_jm _ (List.mem_of_getElem? (i := 6) rfl)) (a_jm _ (List.mem_of_getElem? (i := 17) rfl)) (a_jm _ (List.mem_of_getElem? (i := 28) rfl)) (a_jm _ (List.mem_of_getElem? (i := 25) rfl))) rfl rfl rfl (by decide +kernel) ⟨Nat.le_of_ble_eq_true rfl, Nat.le_of_ble_eq_true rfl⟩)
    ⟨a_St_blind, fun U hU hW => ⟨rfl, hS9.to hU hW.alike⟩⟩ rfl rfl hl.1 rfl (lv_room (Nat.le_of_ble_eq_true rfl)) dJ0_charAt_5068e_12 ⟨Nat.zero_le _, Nat.zero_le _⟩) ?_
  exact W.zret hx hb hr (sc_nar _) (fun t ht _ => ⟨rfl, ht⟩) (fun q h => nomatch h) dJ0_charAt_5068e_15
end
section
/-! Every instruction but calls, returns and throws; the members of the JDK. -/
section A11
variable {p : Program} {l : Launch} {e : Env} {R : Room} {s : State} {H0 : Heap} {m : MethodId} {args : Array Value} {below : List Frame} {meth : Method} {c : Code} {Q : State → Prop}
variable {D : va_G} {A : Nat → Prop} {nL : Nat} {ad0 : Nat → Nat} {n0 : Nat} {cc : ByteArray} {xs : Nat → Int32} {L : Nat} {pc : Nat} {ls st : List Value} {h : a_H} {cb nb : Nat} {z : a_S} {MT : Nat → Option a_Md} {q : a_Md} {i : Instr} {len a b : Nat}
theorem a_insok (X : a_cx p s H0 m args meth c cc (m_y q).cls nL A xs L ad0 (m_ini q)) (hd : decode cc pc = .ok (i, len)) (hw : a_okw MT q pc i len a b) (hne : (∃ n, i = .new n) → a < 100) (hz : a_ins xs L i a b pc ls st h cb nb = some z) (k : a_GS p l e R s H0 m args below meth c Q D A nL ad0 n0 z) : a_G p l e R s H0 m args below meth c Q D A nL ad0 n0 pc ls st h cb nb := by
  cases i
  case iconst n =>
    obtain rfl : len = 1 := hw
    exact a_iconst X hd hz k
  case lconst n =>
    obtain rfl : len = 1 := hw
    exact a_lconst X hd hz k
  case fconst n =>
    obtain rfl : len = 1 := hw
    exact a_fconst X hd hz k
  case dconst n =>
    obtain rfl : len = 1 := hw
    exact a_dconst X hd hz k
  case bipush n =>
    obtain rfl : len = 2 := hw
    exact a_bipush X hd hz k
  case sipush n =>
    obtain rfl : len = 3 := hw
    exact a_sipush X hd hz k
  case ldc n =>
    obtain ⟨rfl, hs⟩ := hw
    exact a_ldc X hd hs hz k
  case ldc_w n =>
    obtain ⟨rfl, hs⟩ := hw
    exact a_ldc_w X hd hs hz k
  case ldc2_w n =>
    obtain ⟨rfl, hs⟩ := hw
    exact a_ldc2_w X hd hs hz k
  case iload n =>
    obtain rfl : len = 2 := hw
    exact a_iload X hd hz k
  case iload_n n =>
    obtain rfl : len = 1 := hw
    exact a_iload_n X hd hz k
  case lload n =>
    obtain rfl : len = 2 := hw
    exact a_lload X hd hz k
  case lload_n n =>
    obtain rfl : len = 1 := hw
    exact a_lload_n X hd hz k
  case dload n =>
    obtain rfl : len = 2 := hw
    exact a_dload X hd hz k
  case dload_n n =>
    obtain rfl : len = 1 := hw
    exact a_dload_n X hd hz k
  case aload n =>
    obtain rfl : len = 2 := hw
    exact a_aload X hd hz k
  case aload_n n =>
    obtain rfl : len = 1 := hw
    exact a_aload_n X hd hz k
  case istore n =>
    obtain rfl : len = 2 := hw
    exact a_istore X hd hz k
  case astore n =>
    obtain rfl : len = 2 := hw
    exact a_astore X hd hz k
  case dstore n =>
    obtain rfl : len = 2 := hw
    exact a_dstore X hd hz k
  case istore_n n =>
    obtain rfl : len = 1 := hw
    exact a_istore_n X hd hz k
  case astore_n n =>
    obtain rfl : len = 1 := hw
    exact a_astore_n X hd hz k
  case iinc n d =>
    obtain rfl : len = 3 := hw
    exact a_iinc X hd hz k
  case ior  =>
    obtain rfl : len = 1 := hw
    exact a_ior X hd hz k
  case ishl  =>
    obtain rfl : len = 1 := hw
    exact a_ishl X hd hz k
  case iadd  =>
    obtain rfl : len = 1 := hw
    exact a_iadd X hd hz k
  case isub  =>
    obtain rfl : len = 1 := hw
    exact a_isub X hd hz k
  case imul  =>
    obtain rfl : len = 1 := hw
    exact a_imul X hd hz k
  case iand  =>
    obtain rfl : len = 1 := hw
    exact a_iand X hd hz k
  case ishr  =>
    obtain rfl : len = 1 := hw
    exact a_ishr X hd hz k
  case iushr  =>
    obtain rfl : len = 1 := hw
    exact a_iushr X hd hz k
  case idiv  =>
    obtain rfl : len = 1 := hw
    exact a_idiv X hd hz k
  case irem  =>
    obtain rfl : len = 1 := hw
    exact a_irem X hd hz k
  case i2l  =>
    obtain rfl : len = 1 := hw
    exact a_i2l X hd hz k
  case i2b  =>
    obtain rfl : len = 1 := hw
    exact a_i2b X hd hz k
  case i2d  =>
    obtain rfl : len = 1 := hw
    exact a_i2d X hd hz k
  case i2f  =>
    obtain rfl : len = 1 := hw
    exact a_i2f X hd hz k
  case f2d  =>
    obtain rfl : len = 1 := hw
    exact a_f2d X hd hz k
  case ddiv  =>
    obtain rfl : len = 1 := hw
    exact a_ddiv X hd hz k
  case fdiv  =>
    obtain rfl : len = 1 := hw
    exact a_fdiv X hd hz k
  case lcmp  =>
    obtain rfl : len = 1 := hw
    exact a_lcmp X hd hz k
  case dup  =>
    obtain rfl : len = 1 := hw
    exact a_dup X hd hz k
  case dup2  =>
    obtain rfl : len = 1 := hw
    exact a_dup2 X hd hz k
  case pop  =>
    obtain rfl : len = 1 := hw
    exact a_pop X hd hz k
  case dcmp o9 =>
    obtain rfl : len = 1 := hw
    exact a_dcmp X hd hz k
  case ifCond cnd off =>
    obtain rfl : len = 3 := hw
    exact a_ifCond X hd hz k
  case if_icmp cnd off =>
    obtain rfl : len = 3 := hw
    exact a_if_icmp X hd hz k
  case goto off =>
    obtain rfl : len = 3 := hw
    exact a_goto X hd hz k
  case tableswitch dflt lo hi offs =>
    exact a_tsw X hd hz k
  case getfield n =>
    obtain ⟨rfl, hs⟩ := hw
    exact a_getfield X hd hs hz k
  case putfield n =>
    obtain ⟨rfl, hs⟩ := hw
    exact a_putfield X hd hs hz k
  case new n =>
    obtain ⟨rfl, hs | hs⟩ := hw
    · exact a_new X hd hs.2 hz k
    · exact absurd (hne ⟨n, rfl⟩) (Nat.not_lt.mpr hs.1)
  case newarray t =>
    obtain ⟨rfl, hs⟩ := hw
    exact a_newarray X hd hs hz k
  case anewarray n =>
    obtain ⟨rfl, hs⟩ := hw
    exact a_anewarray X hd hs hz k
  case arraylength  =>
    obtain rfl : len = 1 := hw
    exact a_arraylength X hd hz k
  case aastore  =>
    obtain rfl : len = 1 := hw
    exact a_aastore X hd hz k
  case iaload  =>
    obtain rfl : len = 1 := hw
    simp only [a_ins] at hz
    split at hz
    · rename_i j o r
      cases hv : a_rd xs L h o j 0 with
      | none => simp [hv] at hz
      | some v =>
        simp only [hv, Option.map_some, Option.some.injEq] at hz
        subst hz
        exact a_load X hd (Or.inl ⟨rfl, rfl⟩) hv k
    · cases hz
  case baload  =>
    obtain rfl : len = 1 := hw
    simp only [a_ins] at hz
    split at hz
    · rename_i j o r
      cases hv : a_rd xs L h o j 1 with
      | none => simp [hv] at hz
      | some v =>
        simp only [hv, Option.map_some, Option.some.injEq] at hz
        subst hz
        exact a_load X hd (Or.inr (Or.inl ⟨rfl, rfl⟩)) hv k
    · cases hz
  case laload  =>
    obtain rfl : len = 1 := hw
    simp only [a_ins] at hz
    split at hz
    · rename_i j o r
      cases hv : a_rd xs L h o j 2 with
      | none => simp [hv] at hz
      | some v =>
        simp only [hv, Option.map_some, Option.some.injEq] at hz
        subst hz
        exact a_load X hd (Or.inr (Or.inr (Or.inl ⟨rfl, rfl⟩))) hv k
    · cases hz
  case aaload  =>
    obtain rfl : len = 1 := hw
    simp only [a_ins] at hz
    split at hz
    · rename_i j o r
      cases hv : a_rd xs L h o j 3 with
      | none => simp [hv] at hz
      | some v =>
        simp only [hv, Option.map_some, Option.some.injEq] at hz
        subst hz
        exact a_load X hd (Or.inr (Or.inr (Or.inr ⟨rfl, rfl⟩))) hv k
    · cases hz
  case iastore  =>
    obtain rfl : len = 1 := hw
    simp only [a_ins] at hz
    split at hz
    · rename_i v j o r
      cases hv : a_wr h o j v 0 with
      | none => simp [hv] at hz
      | some h1 =>
        simp only [hv, Option.map_some, Option.some.injEq] at hz
        subst hz
        exact a_store X hd (Or.inl ⟨rfl, rfl⟩) hv k
    · cases hz
  case bastore  =>
    obtain rfl : len = 1 := hw
    simp only [a_ins] at hz
    split at hz
    · rename_i v j o r
      cases hv : a_wr h o j v 1 with
      | none => simp [hv] at hz
      | some h1 =>
        simp only [hv, Option.map_some, Option.some.injEq] at hz
        subst hz
        exact a_store X hd (Or.inr (Or.inl ⟨rfl, rfl⟩)) hv k
    · cases hz
  case lastore  =>
    obtain rfl : len = 1 := hw
    simp only [a_ins] at hz
    split at hz
    · rename_i v j o r
      cases hv : a_wr h o j v 2 with
      | none => simp [hv] at hz
      | some h1 =>
        simp only [hv, Option.map_some, Option.some.injEq] at hz
        subst hz
        exact a_store X hd (Or.inr (Or.inr ⟨rfl, rfl⟩)) hv k
    · cases hz
  all_goals (simp only [a_ins] at hz; cases hz)
theorem a_sum_map (ad : Nat → Nat) (r : List Value) : ((r.map (a_v ad)).map fun v => v.category).sum = a_sum r := by
  unfold a_sum
  rw [List.map_map]
  congr 1
  exact List.map_congr_left fun v _ => a_cat ad v
theorem a_ix {xs : Nat → Int32} {o : Nat} (h1 : a_big + 1 ≤ o) (h2 : o < a_big + 1 + a_tn xs) : o - (a_big + 1) < a_tn xs ∧ a_big + 1 + (o - (a_big + 1)) = o ∧ a_big ≤ o := by omega
theorem a_bstr {locs : List Loc} {H : Heap} (X : a_cx p s H0 m args meth c cc (m_y q).cls nL A xs L ad0 (m_ini q)) (hS : va_S A H0 H locs) {o : Nat} (ho : a_big + 1 ≤ o) (ho2 : o < a_big + 1 + a_tn xs) : ∃ adV : Nat → Nat, (∃ cell : Cell, H[ad0 o]? = some cell ∧ cell.vm.isStatics = false ∧ s.vm.findClass "java/lang/String" = some cell.cls) ∧ (∀ U : State, U.heap = H → s.WarmedH U.vm → a_St xs (fun i => ad0 (a_big + 1 + i)) adV U) := by
  have hA := X.2.2.2.2.2.2.1
  obtain ⟨adV, h4⟩ := hA.2.1
  refine ⟨adV, ?_, fun U hU hW => ?_⟩
  · obtain ⟨cell, h1, h2, h3, -⟩ := (h4.1 (o - (a_big + 1)) (show o - (a_big + 1) < a_tn xs by omega)).1.kept hS.2.1
    have h1' : H[ad0 (a_big + 1 + (o - (a_big + 1)))]? = some cell := h1
    rw [show a_big + 1 + (o - (a_big + 1)) = o by omega] at h1'
    exact ⟨cell, h1', h2, h3⟩
  · unfold a_St
    rw [hU]
    exact ⟨((h4.kept hS.2.1).narrow (fun _ h => h.elim)).moved hW.alike, ((hA.2.2.2.2.2.1.kept hS.2.1).narrow (fun _ h => h.elim)).moved hW.alike, ((hA.2.2.2.2.2.2.1.kept hS.2.1).narrow (fun _ h => h.elim)).moved hW.alike⟩
theorem a_bv (X : a_cx p s H0 m args meth c cc (m_y q).cls nL A xs L ad0 (m_ini q)) {n : Nat} (hd : decode cc pc = .ok (.invokevirtual n, 3)) (hs : ((a = 1004 ∧ Cond.methodLink (m_y q).cls n yJ0_length_8abf5 ∈ lw_good) ∨ (a = 1005 ∧ Cond.methodLink (m_y q).cls n yJ0_charAt_5068e ∈ lw_good)) ∧ 6 ≤ m_fr q ∧ 140 ≤ m_lo q) (hRf : m_fr q ≤ R.frames) (hRl : m_lo q ≤ R.locals)
    {r9 : List Value} {h9 : a_H} (hz : a_bi xs (a - 1000) st h = some (r9, h9)) (k : a_G p l e R s H0 m args below meth c Q D A nL ad0 n0 (pc + 3) ls r9 h9 cb nb) : a_G p l e R s H0 m args below meth c Q D A nL ad0 n0 pc ls st h cb nb := by
  obtain ⟨⟨rfl, hlk⟩ | ⟨rfl, hlk⟩, hf6, hl6⟩ := hs
  · change a_b4 xs st h = some (r9, h9) at hz
    simp only [a_b4] at hz
    split at hz
    rotate_left
    · cases hz
    rename_i o r
    split at hz
    · rename_i hc
      cases hz
      intro ad ca H locs cells slots ls' h1 h2 h3 h4 h5 h6 h7 h8 h9 h10
      rw [a_oks_cons] at h5
      have hix := a_ix hc.2.1 hc.2.2
      have e9 : ad o = ad0 o := h1 _ (Or.inr hix.2.2)
      obtain ⟨adV, hrec, hSt⟩ := a_bstr X h8 hc.2.1 hc.2.2
      have hl := j_length l xs (fun i => ad0 (a_big + 1 + i)) adV hix.1
      rw [hix.2.1] at hl
      show W p l e R s m args below meth c H locs cells slots Q (F0 m pc ls' (.ref (ad o) :: r.map (a_v ad)))
      rw [e9]
      have hts : ∀ w ∈ (Cond.code yJ0_length_8abf5 cJ0_length_8abf5 1 (some .int) :: lw_good), w.before args s = true := fun w hw => by
        rcases List.mem_cons.mp hw with rfl | hw
        · exact X.2.2.2.2.1 _ (a_jm _ (List.mem_of_getElem? (i := 21) rfl))
        · exact X.2.2.2.2.1 _ hw
      exact W.callR (W.runV (As := []) (rest := r.map (a_v ad)) ⟨X.1, X.2.1, X.2.2.1, X.2.2.2.1, hts⟩ hl (cwV 0 hts (a_gV hlk (a_jm _ (List.mem_of_getElem? (i := 13) rfl)) (a_jm _ (List.mem_of_getElem? (i := 14) rfl)) (a_jm _ (List.mem_of_getElem? (i := 27) rfl)) (a_jm _ (List.mem_of_getElem? (i := 21) rfl))) rfl rfl rfl (by decide +kernel) ⟨by show 1 + 1 ≤ R.frames; omega, by show 8 + (1 + 11) + 20 ≤ R.locals; omega⟩)
        ⟨a_St_blind, hrec, fun U hU hW => ⟨rfl, hSt U hU hW⟩⟩ rfl rfl h3.1 rfl (lv_room (by rw [a_sum_map]; exact hc.1)) hd ⟨by omega, by omega⟩)
        (k ad ca H locs cells slots ls' h1 h2 h3 h4 (a_oks_cons.mpr ⟨a_okv_int _ _, h5.2⟩) h6 h7 h8 h9 h10)
    · cases hz
  · change a_b5 xs st h = some (r9, h9) at hz
    simp only [a_b5] at hz
    split at hz
    rotate_left
    · cases hz
    rename_i x o r
    split at hz
    · rename_i hc
      cases hz
      intro ad ca H locs cells slots ls' h1 h2 h3 h4 h5 h6 h7 h8 h9 h10
      simp only [a_oks_cons] at h5
      have hix := a_ix hc.2.1 hc.2.2.1
      have e9 : ad o = ad0 o := h1 _ (Or.inr hix.2.2)
      obtain ⟨adV, hrec, hSt⟩ := a_bstr X h8 hc.2.1 hc.2.2.1
      have hl := j_charAt l xs (fun i => ad0 (a_big + 1 + i)) adV hix.1 x hc.2.2.2
      rw [hix.2.1] at hl
      show W p l e R s m args below meth c H locs cells slots Q (F0 m pc ls' (.int x :: .ref (ad o) :: r.map (a_v ad)))
      rw [e9]
      have hts : ∀ w ∈ (Cond.code yJ0_charAt_5068e cJ0_charAt_5068e 2 (some .char) :: lw_good), w.before args s = true := fun w hw => by
        rcases List.mem_cons.mp hw with rfl | hw
        · exact X.2.2.2.2.1 _ (a_jm _ (List.mem_of_getElem? (i := 23) rfl))
        · exact X.2.2.2.2.1 _ hw
      exact W.callR (W.runV (As := [.int x]) (rest := r.map (a_v ad)) ⟨X.1, X.2.1, X.2.2.1, X.2.2.2.1, hts⟩ hl (cwV 1 hts (a_gV hlk (a_jm _ (List.mem_of_getElem? (i := 15) rfl)) (a_jm _ (List.mem_of_getElem? (i := 16) rfl)) (a_jm _ (List.mem_of_getElem? (i := 27) rfl)) (a_jm _ (List.mem_of_getElem? (i := 23) rfl))) rfl rfl rfl (by decide +kernel) ⟨by show 3 + 1 ≤ R.frames; omega, by show 8 + (2 + 11) + 64 ≤ R.locals; omega⟩)
        ⟨a_St_blind, hrec, fun U hU hW => ⟨rfl, hSt U hU hW⟩⟩ rfl rfl h3.1 rfl (lv_room (by rw [a_sum_map]; exact hc.1)) hd ⟨by omega, by omega⟩)
        (k ad ca H locs cells slots ls' h1 h2 h3 h4 (a_oks_cons.mpr ⟨a_okv_int _ _, h5.2.2⟩) h6 h7 h8 h9 h10)
    · cases hz
theorem a_bs (X : a_cx p s H0 m args meth c cc (m_y q).cls nL A xs L ad0 (m_ini q)) {n : Nat} (hd : decode cc pc = .ok (.invokestatic n, 3)) (hs : ((a = 1001 ∧ Cond.methodLink (m_y q).cls n Lib.Math.min.name ∈ lw_good) ∨ (a = 1002 ∧ Cond.methodLink (m_y q).cls n Lib.Math.max.name ∈ lw_good) ∨ (a = 1003 ∧ Cond.methodLink (m_y q).cls n arraycopyName ∈ lw_good)) ∧ 1 ≤ m_fr q ∧ 30 ≤ m_lo q) (hRf : m_fr q ≤ R.frames) (hRl : m_lo q ≤ R.locals)
    {r9 : List Value} {h9 : a_H} (hz : a_bi xs (a - 1000) st h = some (r9, h9)) (k : a_G p l e R s H0 m args below meth c Q D A nL ad0 n0 (pc + 3) ls r9 h9 cb nb) : a_G p l e R s H0 m args below meth c Q D A nL ad0 n0 pc ls st h cb nb := by
  obtain ⟨⟨rfl, hlk⟩ | ⟨rfl, hlk⟩ | ⟨rfl, hlk⟩, hf6, hl6⟩ := hs
  · change a_b1 st h = some (r9, h9) at hz
    simp only [a_b1] at hz
    split at hz
    rotate_left
    · cases hz
    rename_i y x r
    split at hz
    · rename_i hc
      cases hz
      intro ad ca H locs cells slots ls' h1 h2 h3 h4 h5 h6 h7 h8 h9 h10
      simp only [a_oks_cons] at h5
      exact va_mmin X.1 X.2.1 (X.2.2.1.trans h3.1.symm) X.2.2.2.1 (X.2.2.2.2.1 _ hlk) (X.2.2.2.2.1 _ (a_jm _ (List.mem_of_getElem? (i := 30) rfl))) (X.2.2.2.2.1 _ (a_jm _ (List.mem_of_getElem? (i := 34) rfl))) (X.2.2.2.2.1 _ (a_jm _ (List.mem_of_getElem? (i := 31) rfl))) (by omega) (by rw [a_sum_map]; omega) (by omega) (by omega) hd
        (k ad ca H locs cells slots ls' h1 h2 h3 h4 (a_oks_cons.mpr ⟨a_okv_int _ _, h5.2.2⟩) h6 h7 h8 h9 h10)
    · cases hz
  · change a_b2 st h = some (r9, h9) at hz
    simp only [a_b2] at hz
    split at hz
    rotate_left
    · cases hz
    rename_i y x r
    split at hz
    · rename_i hc
      cases hz
      intro ad ca H locs cells slots ls' h1 h2 h3 h4 h5 h6 h7 h8 h9 h10
      simp only [a_oks_cons] at h5
      exact va_mmax X.1 X.2.1 (X.2.2.1.trans h3.1.symm) X.2.2.2.1 (X.2.2.2.2.1 _ hlk) (X.2.2.2.2.1 _ (a_jm _ (List.mem_of_getElem? (i := 32) rfl))) (X.2.2.2.2.1 _ (a_jm _ (List.mem_of_getElem? (i := 34) rfl))) (X.2.2.2.2.1 _ (a_jm _ (List.mem_of_getElem? (i := 33) rfl))) (by omega) (by rw [a_sum_map]; omega) (by omega) (by omega) hd
        (k ad ca H locs cells slots ls' h1 h2 h3 h4 (a_oks_cons.mpr ⟨a_okv_int _ _, h5.2.2⟩) h6 h7 h8 h9 h10)
    · cases hz
  · change a_b3 st h = some (r9, h9) at hz
    simp only [a_b3] at hz
    split at hz
    rotate_left
    · cases hz
    rename_i x dp o1 sp o0 r
    split at hz
    · rename_i hc1
      simp only [a_cpy9] at hz
      split at hz
      · rename_i t0 n0' f t1 n1 g he0 he1
        split at hz
        · rename_i hc
          obtain ⟨⟨rfl, hty⟩, ⟨hc2, hc3, hc4, hc5, hc6⟩, hfit⟩ := hc
          cases hz
          intro ad ca H locs cells slots ls' h1 h2 h3 h4 h5 h6 h7 h8 h9 h10
          simp only [a_oks_cons] at h5
          refine va_copyi X.1 X.2.1 (X.2.2.1.trans h3.1.symm) X.2.2.2.1 (X.2.2.2.2.1 _ hlk) (X.2.2.2.2.1 _ (a_jm _ (List.mem_of_getElem? (i := 35) rfl))) (X.2.2.2.2.1 _ (a_jm _ (List.mem_of_getElem? (i := 36) rfl))) (X.2.2.2.2.1 _ (a_jm _ (List.mem_of_getElem? (i := 37) rfl))) (h7.K2 he0 he1) h7.1 h7.2.1 h8 o0 o1 0 1 (a_ws_get he0) (a_ws_get he1) rfl rfl (by rcases hty with rfl | rfl <;> rfl) hc2 hc3 hc4 hc5 hc6 hfit (by omega) (by
            rw [a_sum_map]
            have : nativeFrameWords "java/lang/System" "arraycopy" 5 = 7 := by decide
            omega) hd (fun H1 locs1 hP hD hS => ?_)
          have w1 : a_Wd D ad ca (h.set o1 (.inl (t0, n1, .inl (va_cpy f g sp.toNatClampNeg dp.toNatClampNeg x.toNatClampNeg)))) A s H1 := h7.set hP hD (fun y e9 => by cases e9; exact ⟨_, he1, rfl⟩)
          exact k ad ca H1 locs1 cells slots ls' h1 (by rw [List.length_set]; exact h2) h3 (by rw [List.length_set]; exact h4) (by rw [List.length_set]; exact h5.2.2.2.2.2) (a_okh_set h6 o1 (fun f9 e9 => by cases e9)) w1 hS h9 h10
        · simp at hz
      · simp at hz
    · cases hz
theorem a_bo (X : a_cx p s H0 m args meth c cc (m_y q).cls nL A xs L ad0 (m_ini q)) {n : Nat} (hd : decode cc pc = .ok (.invokespecial n, 3)) (hs : Cond.methodLink (m_y q).cls n Lib.objectInit ∈ lw_good ∧ 1 ≤ m_fr q ∧ 30 ≤ m_lo q) (hRf : m_fr q ≤ R.frames) (hRl : m_lo q ≤ R.locals)
    {r9 : List Value} {h9 : a_H} (hz : a_bi xs 0 st h = some (r9, h9)) (k : a_G p l e R s H0 m args below meth c Q D A nL ad0 n0 (pc + 3) ls r9 h9 cb nb) : a_G p l e R s H0 m args below meth c Q D A nL ad0 n0 pc ls st h cb nb := by
  obtain ⟨hlk, hf6, hl6⟩ := hs
  change a_b0 st h = some (r9, h9) at hz
  simp only [a_b0] at hz
  split at hz
  rotate_left
  · cases hz
  rename_i o r
  split at hz
  · rename_i hc
    simp only [Option.some.injEq, Prod.mk.injEq] at hz
    obtain ⟨rfl, rfl⟩ := hz
    intro ad ca H locs cells slots ls' h1 h2 h3 h4 h5 h6 h7 h8 h9 h10
    rw [a_oks_cons] at h5
    exact W.objInit X.1 X.2.1 X.2.2.2.1 (X.2.2.2.2.1 _ hlk) (X.2.2.2.2.1 _ (a_jm _ (List.mem_of_getElem? (i := 38) rfl))) (X.2.2.2.2.1 _ (a_jm _ (List.mem_of_getElem? (i := 39) rfl))) rfl (h3.1.trans X.2.2.1.symm) rfl hd (by omega) (by
        have := lv_room (m := m) (pc := pc) (ls := ls') (rest := .ref (ad o) :: r.map (a_v ad)) (st := r.map (a_v ad)) (by rw [a_sum_map]; exact hc)
        have h9' : 2 * (F0 m pc ls' (.ref (ad o) :: r.map (a_v ad))).monitorRoom + ((r.map (a_v ad)).map fun v => v.category).sum ≤ 8 := this
        show 2 * (F0 m pc ls' (.ref (ad o) :: r.map (a_v ad))).monitorRoom + ((r.map (a_v ad)).map fun v => v.category).sum + 12 ≤ R.locals
        omega)
      (k ad ca H locs cells slots ls' h1 h2 h3 h4 h5.2 h6 h7 h8 h9 h10)
  · cases hz

end A11
end
section
/-! Calls, returns, throws; a run of the abstract machine is a run of the machine. -/
theorem a_pay {args : Array Value} {s : State} (hts : ∀ w ∈ lw_good, w.before args s = true) {y : a_Md} (hy : a_cwd y ∈ lw_good) : ∀ w ∈ a_wsm y, ∀ (a' : Array Value) (U : State), s.WarmedH U.vm → w.before a' U = true := by
  intro w hw a' U hW
  have : w ∈ lw_good := by
    rcases List.mem_cons.mp hw with rfl | hw
    · exact hy
    · exact hw
  exact word_at hW (a_lg this) (hts w this)
theorem a_take {st : List Value} {k : Nat} {v : Value} (h : st[k]? = some v) : st.take (k + 1) = st.take k ++ [v] := by
  rw [List.take_succ, h]; rfl
section A12
variable {p : Program} {l : Launch} {e : Env} {R : Room} {s : State} {H0 : Heap} {m : MethodId} {args : Array Value} {below : List Frame} {meth : Method} {c : Code} {Q : State → Prop}
variable {D : va_G} {A : Nat → Prop} {nL : Nat} {ad0 : Nat → Nat} {n0 : Nat} {cc : ByteArray} {xs : Nat → Int32} {L : Nat} {pc : Nat} {ls st r : List Value} {h h0 : a_H} {cb nb : Nat} {MT : Nat → Option a_Md} {q y : a_Md} {i : Instr} {len a b n : Nat} {res : a_R} {vs : List Value}
/-- an exception of class k is thrown over the frame at pc -/
def a_GX (p : Program) (l : Launch) (e : Env) (R : Room) (s : State) (H0 : Heap) (m : MethodId) (args : Array Value) (below : List Frame) (meth : Method) (c : Code) (Q : State → Prop) (D : va_G) (A : Nat → Prop) (nL : Nat) (ad0 : Nat → Nat) (n0 : Nat) (pc : Nat) (ls r : List Value) (h : a_H) (cb nb : Nat) (k : Nat) : Prop :=
  ∀ (ad : Nat → Nat) (ca : Nat → ClassId) (H : Heap) (locs : List Loc) (cells slots : Nat) (ls' : Array Slot) (ce : Cell) (q9 : Nat), a_agr n0 ad0 ad → n0 ≤ h.length → a_L ad nL ls ls' → a_oks h.length ls → a_okh h → a_Wd D ad ca h A s H → va_S A H0 H locs → cells + cb ≤ R.cells → slots + nb ≤ R.slots → H[q9]? = some ce → ce.vm = .none → s.vm.findClass (a_xn k) = some ce.cls → vx_W p l e R s m args below meth c H locs cells slots Q (F0 m pc ls' (r.map (a_v ad))) q9
/-- behind a call -/
theorem a_aft {st9 : List Value} {av : Array Value} {ad : Nat → Nat} {ca : Nat → ClassId} {H : Heap} {locs : List Loc} {cells slots : Nat} {ls' : Array Slot} (X : a_cx p s H0 m args meth c cc (m_y q).cls nL A xs L ad0 (m_ini q))
    (hr : vx_Run p l e R s m args below meth c H locs cells slots (m_kc y) (m_kn y) (F0 m pc ls' st9) (r.map (a_v ad)) (a_Qr D ad h.length (va_A (a_ws ad ca h) H.size) res h0 av) (a_Xr D ad h.length (va_A (a_ws ad ca h) H.size) res h0) (va_A (a_ws ad ca h) H.size))
    (h1 : a_agr n0 ad0 ad) (h2 : n0 ≤ h.length) (h3 : a_L ad nL ls ls') (h4 : a_oks h.length ls) (h5 : a_oks h.length r) (h7 : a_Wd D ad ca h A s H) (h8 : va_S A H0 H locs) (h9 : cells + cb ≤ R.cells) (h10 : slots + nb ≤ R.slots) (hk1 : m_kc y ≤ cb) (hk2 : m_kn y ≤ nb)
    (kk : ∀ v, res = .inl v → a_G p l e R s H0 m args below meth c Q D A nL ad0 n0 (pc + 3) ls (v.toList ++ r) h0 (cb - m_kc y) (nb - m_kn y))
    (kx : ∀ k, res = .inr k → a_GX p l e R s H0 m args below meth c Q D A nL ad0 n0 pc ls r h0 (cb - m_kc y) (nb - m_kn y) k) :
    W p l e R s m args below meth c H locs cells slots Q (F0 m pc ls' st9) := by
  have hA : ∀ x, va_A (a_ws ad ca h) H.size x → A x := fun x hx => by
    rcases hx with ⟨k, e9, hk⟩ | hx
    · exact h7.2.1.2 k (x, e9) hk
    · exact X.2.2.2.2.2.1 x (Nat.le_trans h8.1 hx)
  refine a_call hr h8 hA (fun k ce q9 t H1 locs1 e1 e2 ht hvm hB hS1 hce hcv hcl => ?_) (fun v t H1 locs1 e1 e2 ht hvm hB hS1 => ?_)
  · obtain ⟨ad', ca', g1, g2, g3, g4⟩ := hB
    have hw : a_Wd D ad' ca' h0 A s H1 := by
      rw [ht] at g4
      exact ⟨g4.1, g4.2.1.weaken (fun _ q _ z => hA _ z), g4.2.2.1.moved hvm.symm, fun i x hi => ⟨arrOfT_moved hvm.symm (g4.2.2.2 i x hi).1, (g4.2.2.2 i x hi).2.moved hvm.symm⟩⟩
    have := kx k e1 ad' ca' H1 locs1 (cells + m_kc y) (slots + m_kn y) ls' ce q9 (a_agr_trans h2 h1 g1) (Nat.le_trans h2 g2) (h3.agr g1 h4) (a_oks_mono g2 h4) g3 hw hS1 (by omega) (by omega) hce hcv hcl
    rw [a_vs_agr g1 h5] at this
    exact this
  · obtain ⟨ad', ca', g1, g2, g3, g4⟩ := hB
    have hw : a_Wd D ad' ca' h0 A s H1 := by
      rw [ht] at g4
      exact ⟨g4.1, g4.2.1.weaken (fun _ q _ z => hA _ z), g4.2.2.1.moved hvm.symm, fun i x hi => ⟨arrOfT_moved hvm.symm (g4.2.2.2 i x hi).1, (g4.2.2.2 i x hi).2.moved hvm.symm⟩⟩
    have hok : a_oks h0.length (v.toList ++ r) := fun w hw9 => by
      rcases List.mem_append.mp hw9 with hw9 | hw9
      · cases v with
        | none => cases hw9
        | some u =>
          rcases List.mem_singleton.mp hw9 with rfl
          exact fun i e9 => absurd e9 (e2 w rfl i)
      · exact a_okv_mono g2 (h5 w hw9)
    have := kk v e1 ad' ca' H1 locs1 (cells + m_kc y) (slots + m_kn y) ls' (a_agr_trans h2 h1 g1) (Nat.le_trans h2 g2) (h3.agr g1 h4) (a_oks_mono g2 h4) hok g3 hw hS1 (by omega) (by omega)
    have ev : (v.toList ++ r).map (a_v ad') = v.toList ++ r.map (a_v ad) := by
      rw [List.map_append, a_vs_agr g1 h5]
      congr 1
      cases v with
      | none => rfl
      | some u =>
        show [a_v ad' u] = [u]
        cases u with
        | ref i => exact absurd rfl (e2 _ rfl i)
        | _ => rfl
    rw [ev] at this
    exact this
/-- what a call is given -/
theorem a_pre {ad : Nat → Nat} {ca : Nat → ClassId} {H : Heap} {locs : List Loc} (X : a_cx p s H0 m args meth c cc (m_y q).cls nL A xs L ad0 (m_ini q)) (h1 : a_agr n0 ad0 ad) (h7 : a_Wd D ad ca h A s H) (h8 : va_S A H0 H locs) :
    ∀ U : State, U.heap = H → s.WarmedH U.vm → a_Pc D ad ca h H.size xs L vs (vs.map (a_v ad)).toArray U := by
  intro U hU hW
  refine ⟨rfl, by rw [hU], ?_, ?_⟩
  · rw [hU]
    exact ⟨h7.1, h7.2.1.weaken (fun _ _ _ _ => trivial), h7.2.2.1.moved hW.alike, fun i x hi => ⟨arrOfT_moved hW.alike (h7.2.2.2 i x hi).1, (h7.2.2.2 i x hi).2.moved hW.alike⟩⟩
  · rw [hU]
    refine a_Amb.to X.2.2.2.2.2.2.1 h8 hW (fun x hx => ?_) (fun i hi => h1 i (Or.inr hi))
    rcases hx with ⟨k, e9, hk⟩ | hx
    · exact h7.2.1.2 k (x, e9) hk
    · exact X.2.2.2.2.2.1 x (Nat.le_trans h8.1 hx)
theorem a_cb (X : a_cx p s H0 m args meth c cc (m_y q).cls nL A xs L ad0 (m_ini q)) (hRf : m_fr q ≤ R.frames) (hRl : m_lo q ≤ R.locals) (hc : a_okq q y) (hh : m_hh y = []) {np : Nat} (hnp : a_np y = some np) (hlk : Cond.methodLink (m_y q).cls n (m_y y) ∈ lw_good) :
    CallB R s args (m_y q).cls n (m_y y) (m_cc y) (m_nL y) (m_rt y) (a_wsm y) { frames := m_fr y, cells := m_kc y, slots := m_kn y, locals := m_lo y } (m_kc y) (m_kn y) np := by
  obtain ⟨⟨hr1, hr2⟩, hini, hcw, hmh⟩ := hc
  have ecw : a_cwd y = .code (m_y y) (m_cc y) (m_nL y) (m_rt y) := if_pos hh
  refine ⟨rfl, rfl, by show m_fr y + 1 ≤ R.frames; omega, by show 8 + (m_nL y + 11) + m_lo y ≤ R.locals; omega, a_pay X.2.2.2.2.1 hcw, by rw [← ecw]; exact List.mem_cons_self, ?_, X.2.2.2.2.1 _ hini, hmh, fun sig hsig => ?_, X.2.2.2.2.1 _ hlk⟩
  · have := X.2.2.2.2.1 _ hcw
    rw [ecw] at this
    exact this
  · unfold a_np at hnp
    rw [hsig] at hnp
    exact (Option.some.inj hnp).symm
theorem a_cn9 (X : a_cx p s H0 m args meth c cc (m_y q).cls nL A xs L ad0 (m_ini q)) (hRf : m_fr q ≤ R.frames) (hRl : m_lo q ≤ R.locals) (hc : a_okq q y) (hh : m_hh y = []) {np : Nat} (hnp : a_np y = some np) (hlk : Cond.methodLinkNest (m_y q).cls n (m_y y) RX8 ∈ a_nest) :
    va_CN R s args (m_y q).cls n (m_y y) RX8 (m_cc y) (m_nL y) (m_rt y) (a_wsm y) { frames := m_fr y, cells := m_kc y, slots := m_kn y, locals := m_lo y } (m_kc y) (m_kn y) np := by
  obtain ⟨⟨hr1, hr2⟩, hini, hcw, hmh⟩ := hc
  have ecw : a_cwd y = .code (m_y y) (m_cc y) (m_nL y) (m_rt y) := if_pos hh
  refine ⟨⟨rfl, rfl, by show m_fr y + 1 ≤ R.frames; omega, by show 8 + (m_nL y + 11) + m_lo y ≤ R.locals; omega, a_pay X.2.2.2.2.1 hcw, by rw [← ecw]; exact List.mem_cons_self⟩, ?_, X.2.2.2.2.1 _ hini, hmh, fun sig hsig => ?_, va_Nw.use rfl (X.2.2.2.2.2.2.1.2.2.2.2.2.2.2.2 _ hlk)⟩
  · have := X.2.2.2.2.1 _ hcw
    rw [ecw] at this
    exact this
  · unfold a_np at hnp
    rw [hsig] at hnp
    exact (Option.some.inj hnp).symm
/-- a virtual call -/
theorem a_cv (X : a_cx p s H0 m args meth c cc (m_y q).cls nL A xs L ad0 (m_ini q)) (hRf : m_fr q ≤ R.frames) (hRl : m_lo q ≤ R.locals) (hd : decode cc pc = .ok (.invokevirtual n, 3))
    (hw : a_okq q y ∧ m_hh y = [] ∧ Cond.methodLink (m_y q).cls n (m_y y) ∈ lw_good ∧ Cond.instanceMethod (m_y y) ∈ lw_good ∧ Cond.selects (m_y y).cls (m_y y) (m_y y) ∈ lw_good ∧ a_np y = some (m_na y - 1) ∧ b < 10 ∧ a_cn b = (m_y y).cls)
    (hz : m_na y ≤ st.length ∧ m_kc y ≤ cb ∧ m_kn y ≤ nb ∧ a_sum (st.drop (m_na y)) ≤ 8 ∧ 1 ≤ m_na y ∧ a_isc h (st[m_na y - 1]?) b = true)
    (hC : a_Con l y xs L (st.take (m_na y)).reverse h res h0)
    (kk : ∀ v, res = .inl v → a_G p l e R s H0 m args below meth c Q D A nL ad0 n0 (pc + 3) ls (v.toList ++ st.drop (m_na y)) h0 (cb - m_kc y) (nb - m_kn y))
    (kx : ∀ k, res = .inr k → a_GX p l e R s H0 m args below meth c Q D A nL ad0 n0 pc ls (st.drop (m_na y)) h0 (cb - m_kc y) (nb - m_kn y) k) : a_G p l e R s H0 m args below meth c Q D A nL ad0 n0 pc ls st h cb nb := by
  intro ad ca H locs cells slots ls' h1 h2 h3 h4 h5 h6 h7 h8 h9 h10
  obtain ⟨hz1, hz2, hz3, hz4, hz5, hz6⟩ := hz
  obtain ⟨hw1, hw2, hw3, hw4, hw5, hw6, hw7, hw8⟩ := hw
  obtain ⟨k9, hk9⟩ : ∃ k9, m_na y = k9 + 1 := ⟨m_na y - 1, by omega⟩
  rw [hk9, Nat.add_sub_cancel] at hz6
  obtain ⟨o, fs, ho, he⟩ : ∃ o fs, st[k9]? = some (.ref o) ∧ h[o]? = some (.inr (b, fs)) := by
    unfold a_isc at hz6
    split at hz6
    · rename_i o ho
      split at hz6
      · rename_i cj fs he
        have : cj = b := by simpa using hz6
        subst this
        exact ⟨o, fs, ho, he⟩
      · cases hz6
    · cases hz6
  have h5t : a_oks h.length (st.take (m_na y)).reverse := fun w hw9 => h5 w (List.mem_of_mem_take (List.mem_reverse.mp hw9))
  have h5d : a_oks h.length (st.drop (m_na y)) := fun w hw9 => h5 w (List.mem_of_mem_drop hw9)
  have evs : (st.take (m_na y)).reverse.map (a_v ad) = .ref (ad o) :: ((st.take k9).map (a_v ad)).reverse := by
    rw [hk9, a_take ho, List.reverse_append, List.map_append]
    show [Value.ref (ad o)] ++ _ = _
    rw [List.map_reverse]
    rfl
  have est : st.map (a_v ad) = ((st.take k9).map (a_v ad)).reverse.reverse ++ .ref (ad o) :: (st.drop (m_na y)).map (a_v ad) := by
    rw [List.reverse_reverse]
    conv => lhs; rw [← List.take_append_drop (m_na y) st]
    rw [hk9, a_take ho, List.map_append, List.map_append, List.append_assoc]
    rfl
  have hrec : ∃ cell : Cell, H[ad o]? = some cell ∧ cell.vm.isStatics = false ∧ s.vm.findClass (m_y y).cls = some cell.cls := by
    rw [← hw8]
    exact va_recv h7.2.2.1 h7.1 (q := (a_cn b, a_T b, a_nf b)) (a_cl hw7) (a_ws_get he)
  have hpre := a_pre (vs := (st.take (m_na y)).reverse) X h1 h7 h8
  rw [evs] at hpre
  have hlen : ((st.take k9).map (a_v ad)).reverse.length = m_na y - 1 := by
    rw [List.length_reverse, List.length_map, List.length_take]
    omega
  have hr := vx_runV (As := ((st.take k9).map (a_v ad)).reverse) (rest := (st.drop (m_na y)).map (a_v ad)) (C := (m_y y).cls) ⟨X.1, X.2.1, X.2.2.1, X.2.2.2.1, X.2.2.2.2.1⟩ (hC D ad ca H.size h5t h6) ⟨a_cb X hRf hRl hw1 hw2 hw6 hw3, X.2.2.2.2.1 _ hw4, X.2.2.2.2.1 _ hw5⟩ ⟨a_Pc_blind, hrec, hpre⟩ (g := F0 m pc ls' (st.map (a_v ad))) rfl hlen h3.1 est (lv_room (by rw [a_sum_map]; exact hz4)) hd ⟨by omega, by omega⟩
    (p := p) (e := e) (below := below) (meth := meth) (locs := locs) (cells := cells) (slots := slots)
  exact a_aft X hr h1 h2 h3 h4 h5d h7 h8 h9 h10 hz2 hz3 kk kx
/-- a static call -/
theorem a_cs (X : a_cx p s H0 m args meth c cc (m_y q).cls nL A xs L ad0 (m_ini q)) (hRf : m_fr q ≤ R.frames) (hRl : m_lo q ≤ R.locals) (hd : decode cc pc = .ok (.invokestatic n, 3))
    (hw : a_okq q y ∧ (m_hh y = [] ∨ b = 0 ∧ m_thr y = false) ∧ a_lnk (m_y q).cls n b (m_y y) ∧ (b = 1 → m_thr y = false) ∧ Cond.static (m_y y) ∈ lw_good ∧ a_np y = some (m_na y)) (hnx : m_thr y = false → ∃ v, res = .inl v)
    (hz : m_na y ≤ st.length ∧ m_kc y ≤ cb ∧ m_kn y ≤ nb ∧ a_sum (st.drop (m_na y)) ≤ 8)
    (hC : a_Con l y xs L (st.take (m_na y)).reverse h res h0)
    (kk : ∀ v, res = .inl v → a_G p l e R s H0 m args below meth c Q D A nL ad0 n0 (pc + 3) ls (v.toList ++ st.drop (m_na y)) h0 (cb - m_kc y) (nb - m_kn y))
    (kx : ∀ k, res = .inr k → a_GX p l e R s H0 m args below meth c Q D A nL ad0 n0 pc ls (st.drop (m_na y)) h0 (cb - m_kc y) (nb - m_kn y) k) : a_G p l e R s H0 m args below meth c Q D A nL ad0 n0 pc ls st h cb nb := by
  intro ad ca H locs cells slots ls' h1 h2 h3 h4 h5 h6 h7 h8 h9 h10
  obtain ⟨hz1, hz2, hz3, hz4⟩ := hz
  obtain ⟨hw1, hw2, hw3, hw4, hw5, hw6⟩ := hw
  have h5t : a_oks h.length (st.take (m_na y)).reverse := fun w hw9 => h5 w (List.mem_of_mem_take (List.mem_reverse.mp hw9))
  have h5d : a_oks h.length (st.drop (m_na y)) := fun w hw9 => h5 w (List.mem_of_mem_drop hw9)
  have est : st.map (a_v ad) = ((st.take (m_na y)).reverse.map (a_v ad)).reverse ++ (st.drop (m_na y)).map (a_v ad) := by
    rw [List.map_reverse, List.reverse_reverse, ← List.map_append, List.take_append_drop]
  have hpre := a_pre (vs := (st.take (m_na y)).reverse) X h1 h7 h8
  have hlen : ((st.take (m_na y)).reverse.map (a_v ad)).length = m_na y := by
    rw [List.length_map, List.length_reverse, List.length_take]
    omega
  have hr : vx_Run p l e R s m args below meth c H locs cells slots (m_kc y) (m_kn y) (F0 m pc ls' (st.map (a_v ad))) ((st.drop (m_na y)).map (a_v ad)) (a_Qr D ad h.length (va_A (a_ws ad ca h) H.size) res h0 ((st.take (m_na y)).reverse.map (a_v ad)).toArray) (a_Xr D ad h.length (va_A (a_ws ad ca h) H.size) res h0) (va_A (a_ws ad ca h) H.size) := by
    rcases hw3 with ⟨hb0, hlk⟩ | ⟨hb1, hlk⟩
    · by_cases hh : m_hh y = []
      · exact vx_runS (As := (st.take (m_na y)).reverse.map (a_v ad)) (rest := (st.drop (m_na y)).map (a_v ad)) ⟨X.1, X.2.1, X.2.2.1, X.2.2.2.1, X.2.2.2.2.1⟩ (hC D ad ca H.size h5t h6) ⟨a_cb X hRf hRl hw1 hh hw6 hlk, X.2.2.2.2.1 _ hw5⟩ ⟨a_Pc_blind, hpre⟩ (g := F0 m pc ls' (st.map (a_v ad))) rfl hlen h3.1 est (lv_room (by rw [a_sum_map]; exact hz4)) hd ⟨by omega, by omega⟩
      · have hth : m_thr y = false := by
          rcases hw2 with q9 | q9
          · exact absurd q9 hh
          · exact q9.2
        obtain ⟨v, rfl⟩ := hnx hth
        have ecw : a_cwd y = .codeWith (m_y y) (m_cc y) (m_nL y) (m_rt y) (m_hh y) := if_neg hh
        obtain ⟨⟨hr1, hr2⟩, hini, hcw, hmh⟩ := hw1
        refine a_toX (vx_runSW (hh := m_hh y) (bytes := m_cc y) (maxL := m_nL y) (ret := m_rt y) (n := m_na y) (As := (st.take (m_na y)).reverse.map (a_v ad)) (rest := (st.drop (m_na y)).map (a_v ad)) ⟨X.1, X.2.1, X.2.2.1, X.2.2.2.1, X.2.2.2.2.1⟩ (a_noX (hC D ad ca H.size h5t h6)) ⟨⟨rfl, rfl, by show m_fr y + 1 ≤ R.frames; omega, by show 8 + (m_nL y + 11) + m_lo y ≤ R.locals; omega, a_pay X.2.2.2.2.1 hcw, by rw [← ecw]; exact List.mem_cons_self⟩, ?_, X.2.2.2.2.1 _ hini, hmh, fun sig hsig => ?_, X.2.2.2.2.1 _ hlk, X.2.2.2.2.1 _ hw5⟩ ⟨a_Pc_blind, hpre⟩ (g := F0 m pc ls' (st.map (a_v ad))) rfl hlen h3.1 est (lv_room (by rw [a_sum_map]; exact hz4)) hd ⟨by omega, by omega⟩)
        · have := X.2.2.2.2.1 _ hcw
          rw [ecw] at this
          exact this
        · unfold a_np at hw6
          rw [hsig] at hw6
          exact (Option.some.inj hw6).symm
    · obtain ⟨v, rfl⟩ := hnx (hw4 hb1)
      have hh : m_hh y = [] := by
        rcases hw2 with q9 | q9
        · exact q9
        · omega
      exact a_toX (va_runSN (host := RX8) (As := (st.take (m_na y)).reverse.map (a_v ad)) (rest := (st.drop (m_na y)).map (a_v ad)) ⟨X.1, X.2.1, X.2.2.1, X.2.2.2.1, X.2.2.2.2.1⟩ (a_noX (hC D ad ca H.size h5t h6)) ⟨a_cn9 X hRf hRl hw1 hh hw6 hlk, X.2.2.2.2.1 _ hw5, trivial⟩ ⟨a_Pc_blind, hpre⟩ (g := F0 m pc ls' (st.map (a_v ad))) rfl hlen h3.1 est (lv_room (by rw [a_sum_map]; exact hz4)) hd ⟨by omega, by omega⟩)
  exact a_aft X hr h1 h2 h3 h4 h5d h7 h8 h9 h10 hz2 hz3 kk kx
end A12
end
section
/-! Calls of constructors; returns; throws; exceptions that come back. -/
section A13
variable {p : Program} {l : Launch} {e : Env} {R : Room} {s : State} {H0 : Heap} {m : MethodId} {args : Array Value} {below : List Frame} {meth : Method} {c : Code} {Q : State → Prop}
variable {D : va_G} {A : Nat → Prop} {nL : Nat} {ad0 : Nat → Nat} {n0 : Nat} {cc : ByteArray} {xs : Nat → Int32} {L : Nat} {pc : Nat} {ls st r : List Value} {h h0 : a_H} {cb nb : Nat} {MT : Nat → Option a_Md} {q y : a_Md} {i : Instr} {len a b n : Nat} {res : a_R} {vs : List Value} {own : String} {ini : Bool}
theorem a_ci (X : a_cx p s H0 m args meth c cc (m_y q).cls nL A xs L ad0 (m_ini q)) (hRf : m_fr q ≤ R.frames) (hRl : m_lo q ≤ R.locals) (hd : decode cc pc = .ok (.invokespecial n, 3))
    (hw : a_okq q y ∧ m_hh y = [] ∧ m_thr y = false ∧ (m_y y).name = "<init>" ∧ m_rt y = none ∧ a_lnk (m_y q).cls n b (m_y y) ∧ Cond.instanceMethod (m_y y) ∈ lw_good ∧ a_np y = some (m_na y - 1)) (hnx : m_thr y = false → ∃ v, res = .inl v)
    (hz : m_na y ≤ st.length ∧ m_kc y ≤ cb ∧ m_kn y ≤ nb ∧ a_sum (st.drop (m_na y)) ≤ 8 ∧ 1 ≤ m_na y ∧ a_isr (st[m_na y - 1]?) = true)
    (hC : a_Con l y xs L (st.take (m_na y)).reverse h res h0)
    (kk : ∀ v, res = .inl v → a_G p l e R s H0 m args below meth c Q D A nL ad0 n0 (pc + 3) ls (v.toList ++ st.drop (m_na y)) h0 (cb - m_kc y) (nb - m_kn y)) : a_G p l e R s H0 m args below meth c Q D A nL ad0 n0 pc ls st h cb nb := by
  intro ad ca H locs cells slots ls' h1 h2 h3 h4 h5 h6 h7 h8 h9 h10
  obtain ⟨hz1, hz2, hz3, hz4, hz5, hz6⟩ := hz
  obtain ⟨hw1, hw2, hw3, hw4, hw5, hw6, hw7, hw8⟩ := hw
  obtain ⟨v, rfl⟩ := hnx hw3
  obtain ⟨k9, hk9⟩ : ∃ k9, m_na y = k9 + 1 := ⟨m_na y - 1, by omega⟩
  rw [hk9, Nat.add_sub_cancel] at hz6
  obtain ⟨o, ho⟩ : ∃ o, st[k9]? = some (.ref o) := by
    unfold a_isr at hz6
    split at hz6
    · rename_i o ho
      exact ⟨o, ho⟩
    · cases hz6
  have h5t : a_oks h.length (st.take (m_na y)).reverse := fun w hw9 => h5 w (List.mem_of_mem_take (List.mem_reverse.mp hw9))
  have h5d : a_oks h.length (st.drop (m_na y)) := fun w hw9 => h5 w (List.mem_of_mem_drop hw9)
  have evs : (st.take (m_na y)).reverse.map (a_v ad) = .ref (ad o) :: ((st.take k9).map (a_v ad)).reverse := by
    rw [hk9, a_take ho, List.reverse_append, List.map_append]
    show [Value.ref (ad o)] ++ _ = _
    rw [List.map_reverse]
    rfl
  have est : st.map (a_v ad) = ((st.take k9).map (a_v ad)).reverse.reverse ++ .ref (ad o) :: (st.drop (m_na y)).map (a_v ad) := by
    rw [List.reverse_reverse]
    conv => lhs; rw [← List.take_append_drop (m_na y) st]
    rw [hk9, a_take ho, List.map_append, List.map_append, List.append_assoc]
    rfl
  have hpre := a_pre (vs := (st.take (m_na y)).reverse) X h1 h7 h8
  rw [evs] at hpre
  have hlen : ((st.take k9).map (a_v ad)).reverse.length = m_na y - 1 := by
    rw [List.length_reverse, List.length_map, List.length_take]
    omega
  have hsum : 2 * (F0 m pc ls' (st.map (a_v ad))).monitorRoom + (((st.drop (m_na y)).map (a_v ad)).map fun v => v.category).sum ≤ 8 := lv_room (by rw [a_sum_map]; exact hz4)
  have hr : vx_Run p l e R s m args below meth c H locs cells slots (m_kc y) (m_kn y) (F0 m pc ls' (st.map (a_v ad))) ((st.drop (m_na y)).map (a_v ad)) (a_Qr D ad h.length (va_A (a_ws ad ca h) H.size) (.inl v) h0 (Value.ref (ad o) :: ((st.take k9).map (a_v ad)).reverse).toArray) (a_Xr D ad h.length (va_A (a_ws ad ca h) H.size) (.inl v) h0) (va_A (a_ws ad ca h) H.size) := by
    rcases hw6 with ⟨hb0, hlk⟩ | ⟨hb1, hlk⟩
    · have hcb := a_cb X hRf hRl hw1 hw2 hw8 hlk
      rw [hw5] at hcb
      exact a_toX (va_runI ⟨X.1, X.2.1, X.2.2.1, X.2.2.2.1, X.2.2.2.2.1⟩ (a_noX (hC D ad ca H.size h5t h6)) ⟨hcb, hw4, X.2.2.2.2.1 _ hw7⟩ ⟨a_Pc_blind, hpre⟩ (g := F0 m pc ls' (st.map (a_v ad))) rfl hlen h3.1 est hsum hd ⟨by omega, by omega⟩)
    · have hcb := a_cn9 X hRf hRl hw1 hw2 hw8 hlk
      rw [hw5] at hcb
      exact a_toX (va_runIN (host := RX8) ⟨X.1, X.2.1, X.2.2.1, X.2.2.2.1, X.2.2.2.2.1⟩ (a_noX (hC D ad ca H.size h5t h6)) ⟨hcb, hw4, X.2.2.2.2.1 _ hw7⟩ ⟨a_Pc_blind, hpre⟩ (g := F0 m pc ls' (st.map (a_v ad))) rfl hlen h3.1 est hsum hd ⟨by omega, by omega⟩)
  exact a_aft X hr h1 h2 h3 h4 h5d h7 h8 h9 h10 hz2 hz3 kk (fun k hk => by cases hk)
/-- what a method's end owes -/
def a_E (below : List Frame) (D : va_G) (ad0 : Nat → Nat) (n0 : Nat) (A : Nat → Prop) (res : a_R) (h0 : a_H) (args : Array Value) (s : State) (R : Room) : State → Prop := vx_MQ below (a_Qr D ad0 n0 A res h0) (a_Xr D ad0 n0 A res h0) args s R.cells R.slots A
theorem a_end {ad : Nat → Nat} {ca : Nat → ClassId} {H : Heap} {locs : List Loc} {t : State} {v : Option Value} (hv : ∀ w, v = some w → ∀ i, w ≠ .ref i) (h1 : a_agr n0 ad0 ad) (h2 : n0 ≤ h.length) (h6 : a_okh h) (h7 : a_Wd D ad ca h A s H) (h8 : va_S A s.heap H locs) (ht : t.heap = H) (hW : s.WarmedH t.vm) : a_Qr D ad0 n0 A (.inl v) h args s (.returned v) t :=
  ⟨⟨v, rfl, rfl, hv⟩, ⟨ad, ca, h1, h2, h6, by rw [ht]; exact a_Wd.moved hW.alike h7⟩, h8.F ht⟩
theorem a_ret_i {v : Int32} {ty : FieldType} (X : a_cx p s s.heap m args meth c cc own nL A xs L ad0 ini) (hr : meth.sig.returnType = some ty) (hlocks : meth.locks = false) (hn : narrow ty (.int v) = .int v) (hd : decode cc pc = .ok (.ireturn, 1)) : a_G p l e R s s.heap m args below meth c (a_E below D ad0 n0 A (.inl (some (.int v))) h args s R) D A nL ad0 n0 pc ls [.int v] h cb nb := by
  intro ad ca H locs cells slots ls' h1 h2 h3 h4 h5 h6 h7 h8 h9 h10
  refine W.widen (k := R.cells) (n := R.slots) (by omega) (by omega) (vx_ret ?_)
  exact W.zret X.1 X.2.1 hr hn (fun t ht hW => a_end (fun w e i => by cases e; exact fun z => by cases z) h1 h2 h6 h7 h8 ht hW) h8.2.2 hd
theorem a_ret_d {v : UInt64} (X : a_cx p s s.heap m args meth c cc own nL A xs L ad0 ini) (hr : meth.sig.returnType = some .double) (hlocks : meth.locks = false) (hd : decode cc pc = .ok (.dreturn, 1)) : a_G p l e R s s.heap m args below meth c (a_E below D ad0 n0 A (.inl (some (.double v))) h args s R) D A nL ad0 n0 pc ls [.double v] h cb nb := by
  intro ad ca H locs cells slots ls' h1 h2 h3 h4 h5 h6 h7 h8 h9 h10
  refine W.widen (k := R.cells) (n := R.slots) (by omega) (by omega) (vx_ret ?_)
  exact W.dret X.1 X.2.1 hr (fun t ht hW => a_end (fun w e i => by cases e; exact fun z => by cases z) h1 h2 h6 h7 h8 ht hW) h8.2.2 hd
theorem a_ret_f {v : UInt32} (X : a_cx p s s.heap m args meth c cc own nL A xs L ad0 ini) (hr : meth.sig.returnType = some .float) (hlocks : meth.locks = false) (hd : decode cc pc = .ok (.freturn, 1)) : a_G p l e R s s.heap m args below meth c (a_E below D ad0 n0 A (.inl (some (.float v))) h args s R) D A nL ad0 n0 pc ls [.float v] h cb nb := by
  intro ad ca H locs cells slots ls' h1 h2 h3 h4 h5 h6 h7 h8 h9 h10
  refine W.widen (k := R.cells) (n := R.slots) (by omega) (by omega) (vx_ret ?_)
  exact W.fret X.1 X.2.1 hr (fun t ht hW => a_end (fun w e i => by cases e; exact fun z => by cases z) h1 h2 h6 h7 h8 ht hW) h8.2.2 hd
theorem a_ret_v (X : a_cx p s s.heap m args meth c cc own nL A xs L ad0 ini) (hr : meth.sig.returnType = none) (hlocks : meth.locks = false) (hd : decode cc pc = .ok (.return_, 1)) : a_G p l e R s s.heap m args below meth c (a_E below D ad0 n0 A (.inl none) h args s R) D A nL ad0 n0 pc ls [] h cb nb := by
  intro ad ca H locs cells slots ls' h1 h2 h3 h4 h5 h6 h7 h8 h9 h10
  refine W.widen (k := R.cells) (n := R.slots) (by omega) (by omega) (vx_ret ?_)
  exact W.vret X.1 X.2.1 hr (fun t ht hW => a_end (fun w e i => by cases e) h1 h2 h6 h7 h8 ht hW) h8.2.2 hd
theorem a_Wd.kept {ad : Nat → Nat} {ca : Nat → ClassId} {H H1 : Heap} (w : a_Wd D ad ca h A s H) (hq : ∀ q : Nat, q < H.size → H1[q]? = H[q]?) : a_Wd D ad ca h A s H1 :=
  ⟨w.1.kept (fun k q hk => hq _ (vx_lt w.1 hk)), w.2.1, w.2.2.1, w.2.2.2⟩
theorem a_fitx (k : Nat) : Bundle.fit (a_xn k) = true := by
  unfold a_xn
  split <;> decide +kernel
theorem a_fitn : ∀ n ∈ ["java/lang/RuntimeException", "java/lang/Exception"], Bundle.fit n = true := by decide +kernel
theorem a_isn_tab {w : Cond} (h : a_isn w = true) : w.onTables = true := by
  cases w <;> first | rfl | cases h
/-- a throw of its own -/
theorem a_thw (X : a_cx p s s.heap m args meth c cc (m_y q).cls nL A xs L ad0 ini) (hl : l.stackTraces = false) (htab : c.exceptionTable.toList = []) (hlocks : meth.locks = false) (hRf : m_fr q ≤ R.frames) (hRl : m_lo q ≤ R.locals) (hcc : m_cc q = cc) (hd : decode cc pc = .ok (.new n, 3))
    (hw : (m_y q).cls = RX8 ∧ Cond.classLink RX8 n (a_xn a) ∈ lw_good ∧ Cond.initialized (a_xn a) ∈ lw_good ∧ (∃ is ic tx, (is, tx) ∈ a_thr ∧ decode (m_cc q) (pc + 3) = .ok (.dup, 1) ∧ decode (m_cc q) (pc + 4) = .ok (.ldc_w is, 3) ∧ decode (m_cc q) (pc + 7) = .ok (.invokespecial ic, 3) ∧ decode (m_cc q) (pc + 10) = .ok (.athrow, 1) ∧
        (∀ w ∈ a_thws ic a, w ∈ lw_good ∨ w ∈ a_nest)) ∧ 6 ≤ m_fr q ∧ 90 ≤ m_lo q)
    (hc : 1 ≤ cb) (hn : 6 ≤ nb) (hst : a_sum st ≤ 8) (ha : a < 4) : a_G p l e R s s.heap m args below meth c (a_E below D ad0 n0 A (.inr a) h args s R) D A nL ad0 n0 pc ls st h cb nb := by
  intro ad ca H locs cells slots ls' h1 h2 h3 h4 h5 h6 h7 h8 h9 h10
  obtain ⟨w1, w2, w3, ⟨is, ic, tx, w4, w5, w6, w7, w8, w9⟩, w10, w11⟩ := hw
  rw [hcc] at w5 w6 w7 w8
  obtain ⟨sa, hsa⟩ := X.2.2.2.2.2.2.1.2.2.2.1 _ w4
  have hown : s.vm.findClass RX8 = some m.cls := by rw [← w1]; exact X.2.2.2.1
  have gd : ∀ w9 ∈ lw_good, vx_ot w9 = true := fun w9 h9 => by
    unfold vx_ot
    rw [(List.mem_filter.mp h9).2, Bool.or_true]
  have gw : ∀ w ∈ a_thws ic a, w.before args s = true := fun w hw => by
    rcases w9 w hw with q9 | q9
    · exact X.2.2.2.2.1 _ q9
    · exact va_Nw.use (a_isn_tab (List.mem_filter.mp q9).2) (X.2.2.2.2.2.2.1.2.2.2.2.2.2.2.2 _ q9)
  have gg : ∀ w ∈ Cond.classLink RX8 n (a_xn a) :: Cond.initialized (a_xn a) :: a_thws ic a, vx_ot w = true := fun w hw => by
    rcases List.mem_cons.mp hw with rfl | hw
    · exact gd _ w2
    · rcases List.mem_cons.mp hw with rfl | hw
      · exact gd _ w3
      · rcases w9 w hw with q9 | q9
        · exact gd _ q9
        · unfold vx_ot
          rw [a_isn_tab (List.mem_filter.mp q9).2, Bool.true_or]
  have gx : ∀ t : State, s.vm.Alike t.vm → H.size ≤ t.heap.size → (∀ z : Nat, z < H.size → t.heap[z]? = H[z]?) → a_Xr D ad0 n0 A (.inr a) h (a_xn a) s t := fun t hvm hsz hq => by
    refine ⟨⟨a, rfl, ha, rfl⟩, ⟨ad, ca, h1, h2, h6, a_Wd.moved hvm (h7.kept hq)⟩, ?_, fun z hz hA => ?_⟩
    · exact Nat.le_trans h8.1 hsz
    · rw [hq z (Nat.lt_of_lt_of_le hz h8.1)]
      exact h8.2.1 z hz hA
  unfold a_thws at gw gg
  exact vx_throwSW (own := RX8) (cls := a_xn a) (text := tx) (names := ["java/lang/RuntimeException", "java/lang/Exception"]) (sa := sa) (A := A) X.1 X.2.1 hl hown (a_fitx a) a_fitn (X.2.2.2.2.1 _ w2) (X.2.2.2.2.1 _ w3) hsa gw gg
    X.2.2.2.2.2.2.1.2.2.2.2.1.1 X.2.2.2.2.2.2.1.2.2.2.2.1.2 h8 (h3.1.trans X.2.2.1.symm) hd w5 w6 w7 w8 (fun x hx => by rw [htab] at hx; cases hx) (by show 2 + 3 < R.frames; omega) (by rw [a_sum_map]; show a_sum st + (13 * (2 + 1) + 43) ≤ R.locals; omega) (by omega) (by omega) hlocks gx h8.2.2 (by omega) (by omega)
/-- out of the method -/
theorem a_out {k : Nat} (X : a_cx p s s.heap m args meth c cc own nL A xs L ad0 ini) (htab : c.exceptionTable.toList = []) (hlocks : meth.locks = false) (hk : k < 4) : a_GX p l e R s s.heap m args below meth c (a_E below D ad0 n0 A (.inr k) h args s R) D A nL ad0 n0 pc ls r h cb nb k := by
  intro ad ca H locs cells slots ls' ce q9 h1 h2 h3 h4 h6 h7 h8 h9 h10 hce hcv hcl
  exact vx_out (fun x hx => by rw [htab] at hx; cases hx) hlocks hce hcv hcl (fun t ht hvm => ⟨⟨k, rfl, hk, rfl⟩, ⟨ad, ca, h1, h2, h6, by rw [ht]; exact a_Wd.moved hvm h7⟩, h8.F ht⟩) h8.2.2 (by omega) (by omega)
end A13
end
section
/-! An array of arrays of ints. -/
section A14
variable {p : Program} {l : Launch} {e : Env} {R : Room} {s : State} {H0 : Heap} {m : MethodId} {args : Array Value} {below : List Frame} {meth : Method} {c : Code} {Q : State → Prop}
variable {D : va_G} {A : Nat → Prop} {nL : Nat} {ad0 : Nat → Nat} {n0 : Nat} {cc : ByteArray} {xs : Nat → Int32} {L : Nat} {pc : Nat} {ls st r : List Value} {h h0 : a_H} {cb nb : Nat} {n : Nat} {own : String} {ini : Bool} {z : List Value × a_H × Nat × Nat}
def a_adm (ad : Nat → Nat) (b N q : Nat) (r : Nat → Nat) : Nat → Nat := fun i => if i < b then ad i else if i = b then q else if i < b + 1 + N then r (i - (b + 1)) else ad i
def a_cam (ca : Nat → ClassId) (b : Nat) (cA cy : ClassId) : Nat → ClassId := fun i => if i < b then ca i else if i = b then cA else cy
theorem a_adm_agr {b N q : Nat} {ad r : Nat → Nat} (hb : b + N + 1 < a_big) : a_agr b ad (a_adm ad b N q r) := fun i hi => by
  unfold a_adm
  rcases hi with hi | hi
  · rw [if_pos hi]
  · rw [if_neg (by omega), if_neg (by omega), if_neg (by omega)]
theorem a_mna_ws {ad : Nat → Nat} {ca : Nat → ClassId} {N K q : Nat} {r : Nat → Nat} {cA cy : ClassId} {f : Nat → va_E} (hh : a_okh h) (hb : h.length + N + 1 < a_big) :
    a_ws (a_adm ad h.length N q r) (a_cam ca h.length cA cy) (h ++ (a_m1 (h.length + 1) N :: List.replicate N (a_m2 K))) =
      (a_ws ad ca h ++ [(q, .inl (cA, N, .inr (.inr (.inr (.inr (fun i => if i < N then some (r i) else none))))))]) ++ va_pl ([] ++ (List.range N).map r) (vr_up f ((List.range N).map r) (.inl (cy, (K, .inl (fun _ => 0))))) := by
  have hag : a_agr h.length ad (a_adm ad h.length N q r) := a_adm_agr hb
  apply List.ext_getElem?
  intro j
  rcases Nat.lt_trichotomy j h.length with hj | hj | hj
  · obtain ⟨d, hd⟩ : ∃ d, h[j]? = some d := ⟨_, List.getElem?_eq_getElem hj⟩
    rw [a_ws_get (c := d) (by rw [List.getElem?_append_left hj]; exact hd), List.append_assoc, List.getElem?_append_left (by rw [a_ws_len]; exact hj), a_ws_get hd, a_e_agr hag (hh j d hd)]
    unfold a_adm a_cam
    rw [if_pos hj, if_pos hj]
  · subst hj
    rw [a_ws_get (c := a_m1 (h.length + 1) N) (by rw [List.getElem?_append_right (Nat.le_refl _)]; simp), List.append_assoc, List.getElem?_append_right (by rw [a_ws_len]; exact Nat.le_refl _), a_ws_len, Nat.sub_self]
    show _ = some _
    congr 1
    unfold a_m1 a_e a_k
    dsimp only
    have e1 : a_adm ad h.length N q r h.length = q := by unfold a_adm; rw [if_neg (Nat.lt_irrefl _), if_pos rfl]
    have e2 : a_cam ca h.length cA cy h.length = cA := by unfold a_cam; rw [if_neg (Nat.lt_irrefl _), if_pos rfl]
    rw [e1, e2]
    have e3 : (fun i => Option.map (a_adm ad h.length N q r) (if i < N then some (h.length + 1 + i) else none)) = fun i => if i < N then some (r i) else none := by
      funext i
      by_cases hi : i < N
      · rw [if_pos hi, if_pos hi]
        show some _ = some _
        congr 1
        unfold a_adm
        rw [if_neg (by omega), if_neg (by omega), if_pos (by omega), show h.length + 1 + i - (h.length + 1) = i by omega]
      · rw [if_neg hi, if_neg hi]; rfl
    rw [e3]
  · by_cases hN : j < h.length + 1 + N
    · have hi : j - (h.length + 1) < N := by omega
      rw [a_ws_get (c := a_m2 K) (by rw [List.getElem?_append_right (by omega), show j - h.length = (j - (h.length + 1)) + 1 by omega, List.getElem?_cons_succ, List.getElem?_replicate, if_pos hi])]
      rw [List.getElem?_append_right (by simp [a_ws_len]; omega)]
      have e0 : j - (a_ws ad ca h ++ [(q, (Sum.inl (cA, N, .inr (.inr (.inr (.inr (fun i => if i < N then some (r i) else none))))) : va_E))]).length = j - (h.length + 1) := by simp [a_ws_len]
      rw [e0]
      unfold va_pl
      rw [List.nil_append, List.getElem?_map, List.getElem?_map, List.getElem?_range hi]
      show some _ = some _
      congr 1
      have e1 : a_adm ad h.length N q r j = r (j - (h.length + 1)) := by unfold a_adm; rw [if_neg (by omega), if_neg (by omega), if_pos hN]
      have e2 : a_cam ca h.length cA cy j = cy := by unfold a_cam; rw [if_neg (by omega), if_neg (by omega)]
      rw [e1, e2]
      congr 1
      rw [vr_up_in (List.mem_map.mpr ⟨_, List.mem_range.mpr hi, rfl⟩)]
      rfl
    · rw [List.getElem?_eq_none (by rw [a_ws_len]; simp; omega), List.getElem?_eq_none (by simp [a_ws_len, va_pl]; omega)]
theorem a_mna (X : a_cx p s H0 m args meth c cc own nL A xs L ad0 ini) (hd : decode cc pc = .ok (.multianewarray n 2, 4)) (hs : Cond.classLink own n "[[I" ∈ lw_good ∧ Cond.arrayClass .int ∈ lw_good)
    (hz : a_mn st h cb nb = some z) (k : a_G p l e R s H0 m args below meth c Q D A nL ad0 n0 (pc + 4) ls z.1 z.2.1 z.2.2.1 z.2.2.2) : a_G p l e R s H0 m args below meth c Q D A nL ad0 n0 pc ls st h cb nb := by
  unfold a_mn at hz
  split at hz
  · rename_i x y r
    split at hz
    · rename_i hc
      obtain ⟨⟨hc1, hc2⟩, ⟨hc3, hc4⟩, hc5, hc6, hc7⟩ := hc
      cases hz
      replace k : a_G p l e R s H0 m args below meth c Q D A nL ad0 n0 (pc + 4) ls (.ref h.length :: r) (h ++ (a_m1 (h.length + 1) y.toNatClampNeg :: List.replicate y.toNatClampNeg (a_m2 x.toNatClampNeg))) (cb - (1 + y.toNatClampNeg)) (nb - (y.toNatClampNeg + y.toNatClampNeg * x.toNatClampNeg)) := k
      intro ad ca H locs cells slots ls' h1 h2 h3 h4 h5 h6 h7 h8 h9 h10
      rw [a_oks_cons, a_oks_cons] at h5
      have hov : va_AOA .int s := X.2.2.2.2.2.2.1.2.2.2.2.2.2.2.1.2
      obtain ⟨cy, c9, k9, g1, -⟩ := arrayOverA_spec (va_AOA.use (A := args) hov)
      refine va_mna (X := a_ws ad ca h) (L := []) (f := fun _ => .inl (0, (0, .inl (fun _ => 0)))) (ty := .int) (cy := cy) (z := (x.toNatClampNeg, .inl (fun _ => 0))) (N' := y.toNatClampNeg) (K' := x.toNatClampNeg) (tys := []) (D := D) (cl := vwCl) (A := A) (H0 := H0) X.1 X.2.1 X.2.2.2.1 (X.2.2.2.2.1 _ hs.1) hov (X.2.2.2.2.1 _ hs.2) g1 h7.2.2.1
        (by show va_P D vwCl (a_ws ad ca h ++ []) H; rw [List.append_nil]; exact h7.1) (by show va_D A (a_ws ad ca h ++ []); rw [List.append_nil]; exact h7.2.1) h8 X.2.2.2.2.2.1 hc1 hc2 rfl rfl (by omega) (by show x.toNatClampNeg * 4 ≤ 536870912; omega) (by omega) rfl rfl (by omega) (by omega) (fun c0 => ?_) hd (fun q r9 cA H1 hinj hnm hK hP hD hS => ?_)
      · show _ = arrV c0 x.toNatClampNeg (fun _ => .int 0)
        unfold Jvm.Free.Multi.innerC
        simp only [arrV, defaultValue]
        congr 1
        apply Array.ext
        · simp
        · intro i h1 h2
          simp
      · rw [← a_mna_ws h6 hc7] at hP hD
        have hag : a_agr h.length ad (a_adm ad h.length y.toNatClampNeg q r9) := a_adm_agr hc7
        have hkc : ArrOfT s cy .int ∧ va_RA s cy .int := by
          obtain ⟨c2, k2, comp, f1, f2, f3⟩ := Cond.arrayClass_spec (X.2.2.2.2.1 _ hs.2)
          have e1 : s.vm.findClass ("[" ++ FieldType.int.toString) = some cy := g1
          cases Option.some.inj (f1.symm.trans e1)
          exact ⟨fun N z => ⟨(fun k h => by cases h), k2, f2, comp, f3⟩, e1⟩
        have hok : a_okh (h ++ (a_m1 (h.length + 1) y.toNatClampNeg :: List.replicate y.toNatClampNeg (a_m2 x.toNatClampNeg))) := by
          intro i d hi
          rw [List.length_append]
          rcases List.mem_append.mp (List.mem_of_getElem? hi) with hm | hm
          · obtain ⟨j, hj⟩ := List.getElem?_of_mem hm
            exact a_okc_mono (Nat.le_add_right _ _) (h6 j d hj)
          · rcases List.mem_cons.mp hm with rfl | hm
            · intro f ef i j hij
              have ef2 : (Sum.inr (Sum.inr (Sum.inr (Sum.inr (fun i => if i < y.toNatClampNeg then some (h.length + 1 + i) else none)))) : (Nat → Int32) ⊕ (Nat → Int64) ⊕ (Nat → UInt32) ⊕ (Nat → UInt64) ⊕ (Nat → Option Nat)) = Sum.inr (Sum.inr (Sum.inr (Sum.inr f))) := ef
              cases ef2
              dsimp only at hij
              split at hij
              · cases hij
                exact Or.inl (by simp; omega)
              · cases hij
            · rw [(List.mem_replicate.mp hm).2]
              intro f ef
              cases ef
        have hw : a_Wd D (a_adm ad h.length y.toNatClampNeg q r9) (a_cam ca h.length cA cy) (h ++ (a_m1 (h.length + 1) y.toNatClampNeg :: List.replicate y.toNatClampNeg (a_m2 x.toNatClampNeg))) A s H1 := by
          refine ⟨hP, hD, h7.2.2.1, fun j x9 hj => ?_⟩
          rcases Nat.lt_trichotomy j h.length with hl | hl | hl
          · rw [List.getElem?_append_left hl] at hj
            have e2 : a_cam ca h.length cA cy j = ca j := by unfold a_cam; rw [if_pos hl]
            rw [e2]
            exact h7.2.2.2 j x9 hj
          · subst hl
            rw [List.getElem?_append_right (Nat.le_refl _), Nat.sub_self] at hj
            cases hj
            have e2 : a_cam ca h.length cA cy h.length = cA := by unfold a_cam; rw [if_neg (Nat.lt_irrefl _), if_pos rfl]
            rw [e2]
            exact hK.2 0 _ rfl
          · rw [List.getElem?_append_right (by omega), show j - h.length = (j - (h.length + 1)) + 1 by omega, List.getElem?_cons_succ, List.getElem?_replicate] at hj
            have e2 : a_cam ca h.length cA cy j = cy := by unfold a_cam; rw [if_neg (by omega), if_neg (by omega)]
            rw [e2]
            split at hj
            · cases hj
              exact hkc
            · cases hj
        have := k (a_adm ad h.length y.toNatClampNeg q r9) (a_cam ca h.length cA cy) H1 locs (cells + 1 + y.toNatClampNeg) (slots + y.toNatClampNeg + y.toNatClampNeg * x.toNatClampNeg) ls' (a_agr_trans h2 h1 hag) (by rw [List.length_append]; omega) (h3.agr hag h4) (a_oks_mono (by rw [List.length_append]; omega) h4) (a_oks_cons.mpr ⟨fun i e9 => by cases e9; exact Or.inl (by simp), a_oks_mono (by rw [List.length_append]; omega) h5.2.2⟩) hok hw hS (by omega) (by omega)
        rw [List.map_cons, a_vs_agr hag h5.2.2] at this
        have e1 : a_v (a_adm ad h.length y.toNatClampNeg q r9) (.ref h.length) = .ref q := by show Value.ref (a_adm ad h.length y.toNatClampNeg q r9 h.length) = _; unfold a_adm; rw [if_neg (Nat.lt_irrefl _), if_pos rfl]
        rw [e1] at this
        exact this
    · cases hz
  · cases hz
end A14
end
section
/-! A run of the abstract machine is a run of the machine. -/
section A15
variable {p : Program} {l : Launch} {e : Env} {R : Room} {s : State} {H0 : Heap} {m : MethodId} {args : Array Value} {below : List Frame} {meth : Method} {c : Code} {Q : State → Prop}
variable {D : va_G} {A : Nat → Prop} {nL : Nat} {ad0 : Nat → Nat} {n0 : Nat} {cc : ByteArray} {xs : Nat → Int32} {L : Nat} {pc : Nat} {ls st r : List Value} {h h0 : a_H} {cb nb : Nat} {MT : Nat → Option a_Md} {q y : a_Md} {i : Instr} {len a b n : Nat} {res : a_R} {vs : List Value}
theorem a_row (hok : ∀ z ∈ m_is q, a_oke MT q z) (hcc : m_cc q = cc) (h1 : a_at (m_is q) pc = some (i, len, a, b)) : decode cc pc = .ok (i, len) ∧ a_okw MT q pc i len a b := by
  have := hok _ (a_at_mem h1)
  rw [← hcc]
  exact this
theorem a_hdl {hp : Nat} {v : Int32} {q9 : Nat} {ad : Nat → Nat} {ca : Nat → ClassId} {H : Heap} {locs : List Loc} {cells slots : Nat} {ls' : Array Slot} (X : a_cx p s s.heap m args meth c cc (m_y q).cls nL A xs L ad0 (m_ini q)) (hcc : m_cc q = cc) (hnL : m_nL q = nL) (hok : ∀ z ∈ m_is q, a_oke MT q z) (hr : meth.sig.returnType = some .int ∨ meth.sig.returnType = some .boolean) (hlocks : meth.locks = false) (hv : a_hv q hp = some v) (hv1 : v = 0 ∨ v = 1)
    (h1 : a_agr n0 ad0 ad) (h2 : n0 ≤ h.length) (h3 : a_L ad nL ls ls') (h6 : a_okh h) (h7 : a_Wd D ad ca h A s H) (h8 : va_S A s.heap H locs) (h9 : cells ≤ R.cells) (h10 : slots ≤ R.slots) :
    W p l e R s m args below meth c H locs cells slots (a_E below D ad0 n0 A (.inl (some (.int v))) h args s R) (F0 m hp ls' [.ref q9]) := by
  have fin : ∀ (pc2 : Nat) (ls2 : Array Slot) (v2 : Int) (r1 r2 : Nat × Nat × Nat), a_at (m_is q) pc2 = some (.iconst v2, r1) → a_at (m_is q) (pc2 + 1) = some (.ireturn, r2) → v = Int32.ofInt v2 → W p l e R s m args below meth c H locs cells slots (a_E below D ad0 n0 A (.inl (some (.int v))) h args s R) (F0 m pc2 ls2 []) := by
    intro pc2 ls2 v2 r1 r2 e1 e2 e3
    obtain ⟨len1, a1, b1⟩ := r1
    obtain ⟨len2, a2, b2⟩ := r2
    obtain ⟨d1, w1⟩ := a_row hok hcc e1
    obtain ⟨d2, w2⟩ := a_row hok hcc e2
    obtain rfl : len1 = 1 := w1
    obtain rfl : len2 = 1 := w2
    subst e3
    refine lv_iconst X.1 X.2.1 d1 rfl ?_
    refine W.widen (k := R.cells) (n := R.slots) h9 h10 (vx_ret ?_)
    rcases hr with hr | hr
    · exact W.zret X.1 X.2.1 hr rfl (fun t ht hW => a_end (fun w e i => by cases e; exact fun z => by cases z) h1 h2 h6 h7 h8 ht hW) h8.2.2 d2
    · exact W.zret X.1 X.2.1 hr (by rcases hv1 with e | e <;> rw [e] <;> rfl) (fun t ht hW => a_end (fun w e i => by cases e; exact fun z => by cases z) h1 h2 h6 h7 h8 ht hW) h8.2.2 d2
  unfold a_hv at hv
  split at hv
  · rename_i k r1 e1
    split at hv
    · rename_i hk
      split at hv
      · rename_i v2 r2 r3 e2 e3
        cases hv
        obtain ⟨len1, a1, b1⟩ := r1
        obtain ⟨d1, w1⟩ := a_row hok hcc e1
        obtain rfl : len1 = 1 := w1
        refine lv_astore_n (nL := nL) (lv := a_as ad ls) X.1 X.2.1 d1 rfl h3.has (by rw [← hnL]; exact hk) rfl (fun ls2 hl2 => ?_)
        exact fin (hp + 1) ls2 v2 r2 r3 e2 e3 rfl
      · cases hv
    · cases hv
  · rename_i k r1 e1
    split at hv
    · rename_i hk
      split at hv
      · rename_i v2 r2 r3 e2 e3
        cases hv
        obtain ⟨len1, a1, b1⟩ := r1
        obtain ⟨d1, w1⟩ := a_row hok hcc e1
        obtain rfl : len1 = 2 := w1
        refine lv_astore (nL := nL) (lv := a_as ad ls) X.1 X.2.1 d1 h3.has (by rw [← hnL]; exact hk) rfl (fun ls2 hl2 => ?_)
        exact fin (hp + 2) ls2 v2 r2 r3 e2 e3 rfl
      · cases hv
    · cases hv
  · cases hv
/-- an exception comes back at a call -/
theorem a_hxG {k : Nat} (X : a_cx p s s.heap m args meth c cc (m_y q).cls nL A xs L ad0 (m_ini q)) (hcc : m_cc q = cc) (hnL : m_nL q = nL) (hok : a_okm MT q) (hr : meth.sig.returnType = m_rt q) (hlocks : meth.locks = false) (htab : c.exceptionTable.toList = tableOf (m_hh q))
    (hz : a_hx q k h = some (res, h0)) (hpc : m_hh q = [] ∨ ∃ n r9, (pc, .invokevirtual n, r9) ∈ m_is q) : a_GX p l e R s s.heap m args below meth c (a_E below D ad0 n0 A res h0 args s R) D A nL ad0 n0 pc ls r h cb nb k := by
  unfold a_hx at hz
  split at hz
  · rename_i z hf
    obtain ⟨hz1, as, bs, hsp, has⟩ := List.find?_eq_some_iff_append.mp hf
    have hzk : z.2 = k := by simpa using hz1
    rw [Option.bind_eq_some_iff] at hz
    obtain ⟨v, hv, e9⟩ := hz
    split at e9
    rotate_left
    · cases e9
    rename_i hv1
    cases e9
    have hmem : z ∈ (m_hh q).zip (m_xk q) := List.mem_of_find?_eq_some hf
    have hne : m_hh q ≠ [] := fun e0 => by rw [e0] at hmem; cases hmem
    obtain ⟨hplain, hok1, hok2, hok3, hok4⟩ := hok
    rcases hok2 with hok2 | ⟨-, hrt, hlen, hlen1, hrows⟩
    · exact absurd hok2 hne
    obtain ⟨n9, r9, hm⟩ : ∃ n r9, (pc, .invokevirtual n, r9) ∈ m_is q := hpc.resolve_left hne
    have hfst : m_hh q = as.map (·.1) ++ z.1 :: bs.map (·.1) := by
      have h1 : ((m_hh q).zip (m_xk q)).map Prod.fst = m_hh q := List.map_fst_zip (Nat.le_of_eq hlen)
      rw [hsp, List.map_append, List.map_cons] at h1
      exact h1.symm
    have hcov : ∀ z9 ∈ (m_hh q).zip (m_xk q), z9.1.1 ≤ pc ∧ pc < z9.1.2.1 := fun z9 h9 => (hrows z9 h9).2.2.2.2 _ hm ⟨n9, rfl⟩
    intro ad ca H locs cells slots ls' ce q9 h1 h2 h3 h4 h6 h7 h8 h9 h10 hce hcv hcl
    obtain ⟨hc0, hk4, hlk, hcast, -⟩ := hrows z hmem
    have hsplit : c.exceptionTable.toList = tableOf (as.map (·.1)) ++ (⟨z.1.1, z.1.2.1, z.1.2.2.1, z.1.2.2.2⟩ : ExceptionTableEntry) :: tableOf (bs.map (·.1)) := by
      rw [htab, hfst]
      simp [tableOf]
    refine vx_catch (own := (m_y q).cls) (name := a_xn z.2) (E := a_xn k) X.2.2.2.1 _ _ _ hsplit (fun x hx => ?_) ?_ hc0 (X.2.2.2.2.1 _ hlk) ?_ hce hcv hcl ?_
    · exfalso
      have has0 : as = [] := by
        have e1 : ((m_hh q).zip (m_xk q)).length ≤ 1 := by rw [List.length_zip]; omega
        rw [hsp, List.length_append, List.length_cons] at e1
        exact List.eq_nil_of_length_eq_zero (by omega)
      subst has0
      cases hx
    · have := hcov z hmem
      simp [covers, this.1, this.2]
    · rw [hzk]
      rw [hzk] at hcast
      exact va_Nw.use rfl (X.2.2.2.2.2.2.1.2.2.2.2.2.2.2.2 _ hcast)
    · exact a_hdl X hcc hnL hok1 (by rw [hr]; exact hrt) hlocks hv hv1 h1 h2 h3 h6 h7 h8 (by omega) (by omega)
  · split at hz
    · rename_i hc
      cases hz
      exact a_out X (by rw [htab, hc.2.1]; rfl) hlocks hc.2.2
    · cases hz
end A15
end
section
/-! Steps, calls, ends together; the contract of a method out of a run of it. -/
section A16
variable {p : Program} {l : Launch} {e : Env} {R : Room} {s : State} {H0 : Heap} {m : MethodId} {args : Array Value} {below : List Frame} {meth : Method} {c : Code} {Q : State → Prop}
variable {D : va_G} {A : Nat → Prop} {nL : Nat} {ad0 : Nat → Nat} {n0 : Nat} {cc : ByteArray} {xs : Nat → Int32} {L : Nat} {pc : Nat} {ls st r : List Value} {h h0 : a_H} {cb nb : Nat} {MT : Nat → Option a_Md} {q y : a_Md} {i : Instr} {len a b n : Nat} {res : a_R} {vs : List Value}
theorem a_map_l {α β γ : Type} {o : Option α} {z : α ⊕ (β ⊕ γ)} (h : o.map Sum.inl = some z) : ∃ x, o = some x ∧ z = .inl x := by
  rw [Option.map_eq_some_iff] at h
  obtain ⟨x, h1, h2⟩ := h
  exact ⟨x, h1, h2.symm⟩
theorem a_s1 {z : a_S} (X : a_cx p s H0 m args meth c cc (m_y q).cls nL A xs L ad0 (m_ini q)) (hcc : m_cc q = cc) (hok : ∀ z ∈ m_is q, a_oke MT q z) (hRf : m_fr q ≤ R.frames) (hRl : m_lo q ≤ R.locals) (hz : a_1 MT xs L q pc ls st h cb nb = some (.inl z))
    (k : a_GS p l e R s H0 m args below meth c Q D A nL ad0 n0 z) : a_G p l e R s H0 m args below meth c Q D A nL ad0 n0 pc ls st h cb nb := by
  unfold a_1 at hz
  split at hz
  · cases hz
  rename_i i len a b hat
  obtain ⟨hd, hw⟩ := a_row hok hcc hat
  split at hz
  · split at hz
    · split at hz
      · split at hz <;> cases hz
      · cases hz
    · cases hz
  · split at hz
    · split at hz <;> cases hz
    · cases hz
  · split at hz
    · split at hz <;> cases hz
    · cases hz
  · split at hz
    · split at hz <;> cases hz
    · cases hz
  · split at hz
    · split at hz <;> cases hz
    · rename_i ha
      obtain ⟨x, hx, ez⟩ := a_map_l hz
      cases ez
      exact a_insok X hd hw (fun _ => by omega) hx k
  · obtain ⟨rfl, -, hs⟩ := hw
    split at hz
    · rename_i hd2
      subst hd2
      rw [Option.map_eq_some_iff] at hz
      obtain ⟨x, hx, ez⟩ := hz
      cases ez
      exact a_mna X hd hs hx k
    · cases hz
  · obtain ⟨rfl, hs⟩ := hw
    split at hz
    · rename_i ha
      rw [Option.map_eq_some_iff] at hz
      obtain ⟨x, hx, ez⟩ := hz
      cases ez
      rcases hs with ⟨-, hs⟩ | ⟨hs, -⟩
      · exact a_bv X hd hs hRf hRl hx k
      · omega
    · split at hz
      · split at hz <;> cases hz
      · cases hz
  · obtain ⟨rfl, hs⟩ := hw
    split at hz
    · rename_i ha
      rw [Option.map_eq_some_iff] at hz
      obtain ⟨x, hx, ez⟩ := hz
      cases ez
      rcases hs with ⟨-, hs⟩ | ⟨hs, -⟩
      · exact a_bs X hd hs hRf hRl hx k
      · omega
    · split at hz
      · split at hz <;> cases hz
      · cases hz
  · obtain ⟨rfl, hs⟩ := hw
    split at hz
    · rename_i ha
      rw [Option.map_eq_some_iff] at hz
      obtain ⟨x, hx, ez⟩ := hz
      cases ez
      rcases hs with ⟨rfl, hs⟩ | ⟨hs, -⟩
      · exact a_bo X hd hs hRf hRl hx k
      · omega
    · split at hz
      · split at hz <;> cases hz
      · cases hz
  · rename_i hne _ _ _ _
    obtain ⟨x, hx, ez⟩ := a_map_l hz
    cases ez
    exact a_insok X hd hw (fun ⟨n, e9⟩ => absurd e9 (hne n)) hx k
/-- an end of its own -/
theorem a_e1 {w : a_R × a_H} (X : a_cx p s s.heap m args meth c cc (m_y q).cls nL A xs L ad0 (m_ini q)) (hcc : m_cc q = cc) (hok : ∀ z ∈ m_is q, a_oke MT q z) (hl : l.stackTraces = false) (hr : meth.sig.returnType = m_rt q) (hlocks : meth.locks = false) (htab : c.exceptionTable.toList = tableOf (m_hh q)) (hRf : m_fr q ≤ R.frames) (hRl : m_lo q ≤ R.locals) (hz : a_1 MT xs L q pc ls st h cb nb = some (.inr (.inr w))) :
    a_G p l e R s s.heap m args below meth c (a_E below D ad0 n0 A w.1 w.2 args s R) D A nL ad0 n0 pc ls st h cb nb := by
  unfold a_1 at hz
  split at hz
  · cases hz
  rename_i i len a b hat
  obtain ⟨hd, hw⟩ := a_row hok hcc hat
  have noins : ∀ {o : Option a_S}, (o.map Sum.inl : Option a_O) = some (.inr (.inr w)) → False := fun h => by
    obtain ⟨x, -, h2⟩ := a_map_l h
    cases h2
  split at hz
  · obtain rfl : len = 1 := hw
    split at hz
    · split at hz
      · rename_i ty hty
        split at hz
        · rename_i hn
          cases hz
          exact a_ret_i X (hr.trans hty) hlocks hn hd
        · cases hz
      · cases hz
    · cases hz
  · obtain rfl : len = 1 := hw
    split at hz
    · split at hz
      · rename_i hty
        cases hz
        exact a_ret_d X (hr.trans hty) hlocks hd
      · cases hz
    · cases hz
  · obtain rfl : len = 1 := hw
    split at hz
    · split at hz
      · rename_i hty
        cases hz
        exact a_ret_f X (hr.trans hty) hlocks hd
      · cases hz
    · cases hz
  · obtain rfl : len = 1 := hw
    split at hz
    · split at hz
      · rename_i hty
        cases hz
        exact a_ret_v X (hr.trans hty) hlocks hd
      · cases hz
    · cases hz
  · split at hz
    · rename_i ha
      split at hz
      · rename_i hc
        obtain ⟨g1, g2, g3, g4, g5, g6⟩ := hc
        cases hz
        obtain ⟨rfl, ⟨h100, -⟩ | ⟨-, hs⟩⟩ := hw
        · omega
        · exact a_thw X hl (by rw [htab, g2]; rfl) hlocks hRf hRl hcc hd hs g3 g4 g5 (by omega)
      · cases hz
    · exact (noins hz).elim
  · split at hz
    · rw [Option.map_eq_some_iff] at hz
      obtain ⟨x, -, ez⟩ := hz
      cases ez
    · cases hz
  · split at hz
    · rw [Option.map_eq_some_iff] at hz
      obtain ⟨x, -, ez⟩ := hz
      cases ez
    · split at hz
      · split at hz <;> cases hz
      · cases hz
  · split at hz
    · rw [Option.map_eq_some_iff] at hz
      obtain ⟨x, -, ez⟩ := hz
      cases ez
    · split at hz
      · split at hz <;> cases hz
      · cases hz
  · split at hz
    · rw [Option.map_eq_some_iff] at hz
      obtain ⟨x, -, ez⟩ := hz
      cases ez
    · split at hz
      · split at hz <;> cases hz
      · cases hz
  · exact (noins hz).elim
/-- a call and what comes behind it -/
theorem a_k1 {z : Nat × List Value × a_S} {r1 : a_R} {h1 : a_H} (X : a_cx p s H0 m args meth c cc (m_y q).cls nL A xs L ad0 (m_ini q)) (hcc : m_cc q = cc) (hok : a_okm MT q) (hRf : m_fr q ≤ R.frames) (hRl : m_lo q ≤ R.locals) (hz : a_1 MT xs L q pc ls st h cb nb = some (.inr (.inl z))) (hy : MT z.1 = some y)
    (hC : a_Con l y xs L z.2.1 z.2.2.2.2.2.1 r1 h1 ∧ (m_thr y = false → ∃ v, r1 = .inl v))
    (kk : ∀ v, r1 = .inl v → a_G p l e R s H0 m args below meth c Q D A nL ad0 n0 (z.2.2.1 + 3) z.2.2.2.1 (v.toList ++ z.2.2.2.2.1) h1 (z.2.2.2.2.2.2.1 - m_kc y) (z.2.2.2.2.2.2.2 - m_kn y))
    (kx : ∀ k, r1 = .inr k → (m_hh q = [] ∨ ∃ n r9, (z.2.2.1, .invokevirtual n, r9) ∈ m_is q) → a_GX p l e R s H0 m args below meth c Q D A nL ad0 n0 z.2.2.1 z.2.2.2.1 z.2.2.2.2.1 h1 (z.2.2.2.2.2.2.1 - m_kc y) (z.2.2.2.2.2.2.2 - m_kn y) k) : a_G p l e R s H0 m args below meth c Q D A nL ad0 n0 pc ls st h cb nb := by
  unfold a_1 at hz
  split at hz
  · cases hz
  rename_i i len a b hat
  obtain ⟨hd, hw⟩ := a_row hok.2.1 hcc hat
  have hmem := a_at_mem hat
  have noins : ∀ {o : Option a_S}, (o.map Sum.inl : Option a_O) = some (.inr (.inl z)) → False := fun h => by
    obtain ⟨x, -, h2⟩ := a_map_l h
    cases h2
  split at hz
  · split at hz
    · split at hz
      · split at hz <;> cases hz
      · cases hz
    · cases hz
  · split at hz
    · split at hz <;> cases hz
    · cases hz
  · split at hz
    · split at hz <;> cases hz
    · cases hz
  · split at hz
    · split at hz <;> cases hz
    · cases hz
  · split at hz
    · split at hz <;> cases hz
    · exact (noins hz).elim
  · split at hz
    · rw [Option.map_eq_some_iff] at hz
      obtain ⟨x, -, ez⟩ := hz
      cases ez
    · cases hz
  · rename_i n9 _
    obtain ⟨rfl, hs⟩ := hw
    split at hz
    · rw [Option.map_eq_some_iff] at hz
      obtain ⟨x, -, ez⟩ := hz
      cases ez
    · rename_i ha
      split at hz
      · rename_i y9 hy9
        split at hz
        · rename_i hc
          cases hz
          cases Option.some.inj (hy9.symm.trans hy)
          rcases hs with ⟨hs, -⟩ | ⟨-, hs⟩
          · omega
          · exact a_cv X hRf hRl hd (hs _ hy9) hc hC.1 kk (fun k e9 => kx k e9 (Or.inr ⟨_, _, hmem⟩))
        · cases hz
      · cases hz
  · rename_i n9 _
    obtain ⟨rfl, hs⟩ := hw
    split at hz
    · rw [Option.map_eq_some_iff] at hz
      obtain ⟨x, -, ez⟩ := hz
      cases ez
    · rename_i ha
      split at hz
      · rename_i y9 hy9
        split at hz
        · rename_i hc
          cases hz
          cases Option.some.inj (hy9.symm.trans hy)
          rcases hs with ⟨hs, -⟩ | ⟨-, hs⟩
          · omega
          · exact a_cs X hRf hRl hd (hs _ hy9) hC.2 hc hC.1 kk (fun k e9 => kx k e9 (by
              by_cases e0 : m_hh q = []
              · exact Or.inl e0
              · exact (hok.2.2.2.2 e0 _ hmem ⟨_, Or.inl rfl⟩).elim))
        · cases hz
      · cases hz
  · rename_i n9 _
    obtain ⟨rfl, hs⟩ := hw
    split at hz
    · rw [Option.map_eq_some_iff] at hz
      obtain ⟨x, -, ez⟩ := hz
      cases ez
    · rename_i ha
      split at hz
      · rename_i y9 hy9
        split at hz
        · rename_i hc
          cases hz
          cases Option.some.inj (hy9.symm.trans hy)
          rcases hs with ⟨hs, -⟩ | ⟨-, hs⟩
          · omega
          · exact a_ci X hRf hRl hd (hs _ hy9) hC.2 hc hC.1 kk
        · cases hz
      · cases hz
  · exact (noins hz).elim
/-- the whole run of a method -/
theorem a_sound {K : Nat → List Value → a_H → Option (a_R × a_H)} (X : a_cx p s H0 m args meth c cc (m_y q).cls nL A xs L ad0 (m_ini q)) (hcc : m_cc q = cc) (hok : a_okm MT q) (hRf : m_fr q ≤ R.frames) (hRl : m_lo q ≤ R.locals)
    (hK : ∀ i y vs h r1 h1, MT i = some y → K i vs h = some (r1, h1) → a_Con l y xs L vs h r1 h1 ∧ (m_thr y = false → ∃ v, r1 = .inl v))
    (HR : ∀ pc ls st h cb nb, a_1 MT xs L q pc ls st h cb nb = some (.inr (.inr (res, h0))) → a_G p l e R s H0 m args below meth c Q D A nL ad0 n0 pc ls st h cb nb)
    (HX : ∀ pc k ls r h cb nb, a_hx q k h = some (res, h0) → (m_hh q = [] ∨ ∃ n r9, (pc, .invokevirtual n, r9) ∈ m_is q) → a_GX p l e R s H0 m args below meth c Q D A nL ad0 n0 pc ls r h cb nb k) :
    ∀ (f pc : Nat) (ls st : List Value) (h : a_H) (cb nb : Nat), a_ex K MT xs L q f pc ls st h cb nb = some (res, h0) → a_G p l e R s H0 m args below meth c Q D A nL ad0 n0 pc ls st h cb nb := by
  intro f
  induction f with
  | zero => intro pc ls st h cb nb hz; cases hz
  | succ f ih =>
    intro pc ls st h cb nb hz
    unfold a_ex at hz
    split at hz
    · cases hz
    · rename_i z h1
      exact a_s1 X hcc hok.2.1 hRf hRl h1 (ih _ _ _ _ _ _ hz)
    · rename_i z h1
      cases hz
      exact HR _ _ _ _ _ _ h1
    · rename_i z h1
      split at hz
      · rename_i y v h' hy hk
        exact a_k1 X hcc hok hRf hRl h1 hy (hK _ _ _ _ _ _ hy hk) (fun v9 e9 => by cases e9; exact ih _ _ _ _ _ _ hz) (fun k e9 => by cases e9)
      · rename_i y k h' hy hk
        exact a_k1 X hcc hok hRf hRl h1 hy (hK _ _ _ _ _ _ hy hk) (fun v9 e9 => by cases e9) (fun k9 e9 hpc => by cases e9; exact HX _ _ _ _ _ _ _ hz hpc)
      · cases hz
end A16
end
section
/-! The contract of a method out of a run of it. -/
theorem a_entL (ad : Nat → Nat) (vs : List Value) : (lg_sl (vs.map (a_v ad))).length = (a_ent vs).length ∧ ∀ (i : Nat) (v : Value), (a_ent vs)[i]? = some v → a_live v → (lg_sl (vs.map (a_v ad)))[i]? = some (.val (a_v ad v)) := by
  induction vs with
  | nil => exact ⟨rfl, fun i v h => by simp [a_ent] at h⟩
  | cons w t ih =>
    obtain ⟨i1, i2⟩ := ih
    by_cases hc : w.category = 2
    · have e1 : lg_sl ((w :: t).map (a_v ad)) = .val (a_v ad w) :: .second :: lg_sl (t.map (a_v ad)) := by
        have : (a_v ad w).category = 2 := by rw [a_cat]; exact hc
        simp [lg_sl, this]
      have e2 : a_ent (w :: t) = w :: a_dead :: a_ent t := by simp [a_ent, hc]
      rw [e1, e2]
      refine ⟨by simp [i1], fun i v h hv => ?_⟩
      match i with
      | 0 => cases h; rfl
      | 1 => cases h; exact absurd rfl (hv 0)
      | i + 2 => exact i2 i v h hv
    · have e1 : lg_sl ((w :: t).map (a_v ad)) = .val (a_v ad w) :: lg_sl (t.map (a_v ad)) := by
        have : ¬ (a_v ad w).category = 2 := by rw [a_cat]; exact hc
        simp [lg_sl, this]
      have e2 : a_ent (w :: t) = w :: a_ent t := by simp [a_ent, hc]
      rw [e1, e2]
      refine ⟨by simp [i1], fun i v h hv => ?_⟩
      match i with
      | 0 => cases h; rfl
      | i + 1 => exact i2 i v h hv
theorem a_loc_L (ad : Nat → Nat) {vs : List Value} {nL : Nat} (hn : (a_ent vs).length ≤ nL) : a_L ad nL (a_loc nL vs) ((lg_sl (vs.map (a_v ad)) ++ List.replicate (nL - (lg_sl (vs.map (a_v ad))).length) Slot.unset).toArray) := by
  obtain ⟨e1, e2⟩ := a_entL ad vs
  have h := lv_entry (vs.map (a_v ad)) (n := nL) (by rw [e1]; exact hn)
  refine ⟨h.1, h.2.1, by simp [a_loc]; omega, fun i v hi hv => ?_⟩
  unfold a_loc at hi
  by_cases hl : i < (a_ent vs).length
  · rw [List.getElem?_append_left hl] at hi
    have := e2 i v hi hv
    rw [List.getElem?_toArray, List.getElem?_append_left (by rw [e1]; exact hl)]
    exact this
  · rw [List.getElem?_append_right (by omega)] at hi
    have := List.eq_of_mem_replicate (List.mem_of_getElem? hi)
    exact absurd this (hv 0)
theorem a_loc_ok {n nL : Nat} {vs : List Value} (h : a_oks n vs) : a_oks n (a_loc nL vs) := by
  have h1 : ∀ vs : List Value, a_oks n vs → a_oks n (a_ent vs) := by
    intro vs
    induction vs with
    | nil => intro _ v hv; cases hv
    | cons w t ih =>
      intro h
      rw [a_oks_cons] at h
      unfold a_ent
      split
      · rw [a_oks_cons, a_oks_cons]
        exact ⟨h.1, a_okv_dead n, ih h.2⟩
      · rw [a_oks_cons]
        exact ⟨h.1, ih h.2⟩
  intro v hv
  rcases List.mem_append.mp hv with hv | hv
  · exact h1 vs h v hv
  · rw [List.eq_of_mem_replicate hv]
    exact a_okv_dead n
section A17
variable {l : Launch} {xs : Nat → Int32} {L : Nat} {MT : Nat → Option a_Md} {q y : a_Md} {res : a_R} {h0 : a_H}
theorem a_1thr {pc : Nat} {ls st : List Value} {h : a_H} {cb nb : Nat} {w : a_R × a_H} (hq : m_thr q = false) (hz : a_1 MT xs L q pc ls st h cb nb = some (.inr (.inr w))) : ∃ v, w.1 = .inl v := by
  have noins : ∀ {o : Option a_S}, (o.map Sum.inl : Option a_O) = some (.inr (.inr w)) → False := fun h => by
    obtain ⟨x, -, h2⟩ := a_map_l h
    cases h2
  unfold a_1 at hz
  split at hz
  · cases hz
  split at hz
  · split at hz
    · split at hz
      · split at hz
        · cases hz; exact ⟨_, rfl⟩
        · cases hz
      · cases hz
    · cases hz
  · split at hz
    · split at hz
      · cases hz; exact ⟨_, rfl⟩
      · cases hz
    · cases hz
  · split at hz
    · split at hz
      · cases hz; exact ⟨_, rfl⟩
      · cases hz
    · cases hz
  · split at hz
    · split at hz
      · cases hz; exact ⟨_, rfl⟩
      · cases hz
    · cases hz
  · split at hz
    · split at hz
      · rename_i hc
        rw [hq] at hc
        cases hc.1
      · cases hz
    · exact (noins hz).elim
  · split at hz
    · rw [Option.map_eq_some_iff] at hz
      obtain ⟨x, -, ez⟩ := hz
      cases ez
    · cases hz
  · split at hz
    · rw [Option.map_eq_some_iff] at hz
      obtain ⟨x, -, ez⟩ := hz
      cases ez
    · split at hz
      · split at hz <;> cases hz
      · cases hz
  · split at hz
    · rw [Option.map_eq_some_iff] at hz
      obtain ⟨x, -, ez⟩ := hz
      cases ez
    · split at hz
      · split at hz <;> cases hz
      · cases hz
  · split at hz
    · rw [Option.map_eq_some_iff] at hz
      obtain ⟨x, -, ez⟩ := hz
      cases ez
    · split at hz
      · split at hz <;> cases hz
      · cases hz
  · exact (noins hz).elim
theorem a_exthr {K : Nat → List Value → a_H → Option (a_R × a_H)} (hq : m_thr q = false) : ∀ (f pc : Nat) (ls st : List Value) (h : a_H) (cb nb : Nat), a_ex K MT xs L q f pc ls st h cb nb = some (res, h0) → ∃ v, res = .inl v := by
  intro f
  induction f with
  | zero => intro pc ls st h cb nb hz; cases hz
  | succ f ih =>
    intro pc ls st h cb nb hz
    unfold a_ex at hz
    split at hz
    · cases hz
    · exact ih _ _ _ _ _ _ hz
    · rename_i z h1
      cases hz
      exact a_1thr hq h1
    · split at hz
      · exact ih _ _ _ _ _ _ hz
      · unfold a_hx at hz
        split at hz
        · rw [Option.bind_eq_some_iff] at hz
          obtain ⟨v, -, hz⟩ := hz
          split at hz
          rotate_left
          · cases hz
          cases hz
          exact ⟨_, rfl⟩
        · split at hz
          · rename_i hc
            rw [hq] at hc
            cases hc.1
          · cases hz
      · cases hz
/-- the contracts of all methods -/
theorem a_cons {F : Nat} (hl : l.stackTraces = false) (hMT : ∀ i y, MT i = some y → a_okm MT y) : ∀ (d i : Nat) (y : a_Md) (vs : List Value) (h : a_H) (r1 : a_R) (h1 : a_H), MT i = some y → a_run MT xs L F d i vs h = some (r1, h1) → a_Con l y xs L vs h r1 h1 ∧ (m_thr y = false → ∃ v, r1 = .inl v) := by
  intro d
  induction d with
  | zero => intro i y vs h r1 h1 _ hz; cases hz
  | succ d ih =>
    intro i y vs h r1 h1 hy hz
    unfold a_run at hz
    rw [hy] at hz
    dsimp only at hz
    split at hz
    rotate_left
    · cases hz
    rename_i hn
    refine ⟨?_, fun hq => a_exthr hq _ _ _ _ _ _ _ hz⟩
    have hok := hMT i y hy
    intro D ad ca sz hvs hh
    have body : ∀ (p : Program) (e : Env) (s : State) (m : MethodId) (args : Array Value) (below : List Frame) (meth : Method) (c : Code) (s₁ : State), BodyLoose p l (m_y y) (headSpec (a_wsm y) { frames := m_fr y, cells := m_kc y, slots := m_kn y, locals := m_lo y }) (m_cc y) (m_nL y) (m_rt y) e s m args below meth c s₁ → c.maxLocals = m_nL y → c.exceptionTable.toList = tableOf (m_hh y) → a_Pc D ad ca h sz xs L vs args s →
        W p l e (headSpec (a_wsm y) { frames := m_fr y, cells := m_kc y, slots := m_kn y, locals := m_lo y }).room s m args below meth c s.heap [] 0 0 (vx_MQ below (a_Qr D ad h.length (va_A (a_ws ad ca h) sz) r1 h1) (a_Xr D ad h.length (va_A (a_ws ad ca h) sz) r1 h1) args s (m_kc y) (m_kn y) (va_A (a_ws ad ca h) sz)) (entryFrame m args (m_nL y)) := by
      intro p e s m args below meth c s₁ B hml htab hP
      obtain ⟨rfl, hsz, hW, hA⟩ := hP
      have hts := atoms_spec (ws := a_wsm y) B.pre
      have X : a_cx p s s.heap m ((vs.map (a_v ad)).toArray) meth c (m_cc y) (m_y y).cls (m_nL y) (va_A (a_ws ad ca h) sz) xs L ad (m_ini y) :=
        ⟨B.exec, B.bytes, hml, findClass_of_methodNamed B.named, fun w hw => hts w (List.mem_cons_of_mem _ hw), fun q hq => Or.inr (by rw [← hsz]; exact hq), hA, fun hi => (name_of_methodNamed B.named B.method).1.trans (hok.2.2.2.1 hi)⟩
      rw [lg_entry_eq]
      exact (a_sound (R := { frames := m_fr y, cells := m_kc y, slots := m_kn y, locals := m_lo y }) (n0 := h.length) (Q := vx_MQ below (a_Qr D ad h.length (va_A (a_ws ad ca h) sz) r1 h1) (a_Xr D ad h.length (va_A (a_ws ad ca h) sz) r1 h1) ((vs.map (a_v ad)).toArray) s (m_kc y) (m_kn y) (va_A (a_ws ad ca h) sz)) (D := D) X rfl hok (Nat.le_refl _) (Nat.le_refl _) (fun i y vs h r1 h1 hy hz => ih i y vs h r1 h1 hy hz)
        (fun pc ls st h9 cb nb hz9 => a_e1 (R := { frames := m_fr y, cells := m_kc y, slots := m_kn y, locals := m_lo y }) (w := (r1, h1)) X rfl hok.2.1 hl B.returns B.notSynchronized htab (Nat.le_refl _) (Nat.le_refl _) hz9)
        (fun pc k ls r h9 cb nb hz9 hpc => a_hxG (R := { frames := m_fr y, cells := m_kc y, slots := m_kn y, locals := m_lo y }) X rfl rfl hok B.returns B.notSynchronized htab hz9 hpc) F 0 (a_loc (m_nL y) vs) [] h (m_kc y) (m_kn y) hz)
        ad ca s.heap [] 0 0 _ (a_agr_refl _ _) (Nat.le_refl _) (a_loc_L ad hn) (a_loc_ok hvs) (fun v hv => by cases hv) hh ⟨hW.1, hW.2.1.weaken (fun k q hk _ => va_A.in hk), hW.2.2⟩ va_S.rf (by show 0 + m_kc y ≤ m_kc y; omega) (by show 0 + m_kn y ≤ m_kn y; omega)
    by_cases hh0 : m_hh y = []
    · refine vx_ofW (y := m_y y) (ws := a_wsm y) (ws' := lw_good) (cc := m_cc y) (maxL := m_nL y) (ret := m_rt y) hok.1 (by unfold a_wsm a_cwd; rw [if_pos hh0]) ?_
      intro p e s m args below meth c s₁ B hml ht hP
      exact body p e s m args below meth c s₁ B hml (by rw [hh0]; exact List.eq_nil_iff_forall_not_mem.mpr (fun x hx => ht x hx)) hP
    · refine vx_ofWH (y := m_y y) (ws := a_wsm y) (ws' := lw_good) (cc := m_cc y) (maxL := m_nL y) (ret := m_rt y) (hh := m_hh y) hok.1 (by unfold a_wsm a_cwd; rw [if_neg hh0]) ?_
      intro p e s m args below meth c s₁ B hml hP
      have hcw := atoms_spec (ws := a_wsm y) B.pre (a_cwd y) List.mem_cons_self
      rw [show a_cwd y = .codeWith (m_y y) (m_cc y) (m_nL y) (m_rt y) (m_hh y) from if_neg hh0] at hcw
      exact body p e s m args below meth c s₁ B hml (vx_table (x := m_y y) B hcw) hP
end A17
end
section
/-! The law's entry: what stands around the world there. -/
theorem a_inT {ws : List Cond} (ps : List Nat) (hp : ws = ps.filterMap (fun i => lw_tbl[i]?)) : ∀ w ∈ ws, w ∈ lw_tbl := by
  intro w hw
  rw [hp] at hw
  obtain ⟨i, -, hi⟩ := List.mem_filterMap.mp hw
  exact List.mem_of_getElem? hi
def a_srL : List Cond := a_strs.map (fun q => Cond.stringRef q.1 q.2.1 q.2.2.1) ++ a_thr.map (fun q => Cond.stringRef RX8 q.1 q.2)
theorem a_sr_in : ∀ w ∈ a_srL, w ∈ lw_tbl := a_inT [373, 1437, 461, 511, 516, 1438, 1439, 811, 963, 944, 772, 1001] (by decide +kernel)
theorem a_inst_in : ∀ w ∈ (List.range 10).map (fun ci => Cond.instantiable (a_cn ci) (a_nf ci)), w ∈ lw_tbl := a_inT [157, 285, 170, 177, 277, 143, 107, 74, 66, 591] (by decide +kernel)
def a_eL : List Cond := [.laysStatic "java/lang/String" "COMPACT_STRINGS" "Z", .laysStatic "jdk/internal/util/Preconditions" "SIOOBE_FORMATTER" "Ljava/util/function/BiFunction;", .laysStatic Bundle.tN "UNASSIGNED_STACK" Bundle.steD, .laysStatic Bundle.tN "SUPPRESSED_SENTINEL" Bundle.listD, .initialized "java/lang/String", .initialized "jdk/internal/util/Preconditions", .initialized Bundle.tN, .arrayOver (.object RX3), .arrayOver (.array .int)]
theorem a_e_in : ∀ w ∈ a_eL, w ∈ lw_tbl := a_inT [383, 399, 758, 760, 47, 49, 59, 176, 149] (by decide +kernel)
def a_sv (tm : Term) : Term := .field tm "java/lang/String" "value" "[B"
def a_req (tm : Term) (len : Nat) (byt : List Int32) : List Cond := .exactly tm "java/lang/String" :: .eq (.field tm "java/lang/String" "coder" "B") (.int 0) :: .arrayOf (a_sv tm) .byte :: .eq (.length (a_sv tm)) (.int (Int32.ofNat len)) :: (List.range len).map (fun j => .eq (.elem (a_sv tm) (.int (Int32.ofNat j))) (.int (byt.getD j 0)))
def a_rep (i : Nat) : String × Nat := match i with
  | 0 => ("WeatherInsurance", 84)
  | 1 => ("WeatherInsuranceLaw", 252)
  | 2 => ("WeatherInsurance$Setup", 74)
  | 3 => ("WeatherInsurance$Setup", 83)
  | 4 => ("WeatherInsurance$Setup", 88)
  | 5 => ("WeatherInsuranceLaw", 264)
  | _ => ("WeatherInsuranceLaw", 269)
def a_fl : List Cond := flatC (Jvm.Cond.and given_1 narrow_1)
theorem a_rq_0 : a_req (.string (a_rep 0).1 (a_rep 0).2) (a_slC.getD 0 0) (a_sbC.getD 0 []) = (a_fl.drop 231).take 82 := by decide +kernel
theorem a_req_0 : ∀ w ∈ a_req (.string (a_rep 0).1 (a_rep 0).2) (a_slC.getD 0 0) (a_sbC.getD 0 []), w ∈ a_fl := fun w h => List.mem_of_mem_drop (List.mem_of_mem_take (by rw [← a_rq_0]; exact h))
theorem a_rq_1 : a_req (.string (a_rep 1).1 (a_rep 1).2) (a_slC.getD 1 0) (a_sbC.getD 1 []) = (a_fl.drop 576).take 12 := by decide +kernel
theorem a_req_1 : ∀ w ∈ a_req (.string (a_rep 1).1 (a_rep 1).2) (a_slC.getD 1 0) (a_sbC.getD 1 []), w ∈ a_fl := fun w h => List.mem_of_mem_drop (List.mem_of_mem_take (by rw [← a_rq_1]; exact h))
theorem a_rq_2 : a_req (.string (a_rep 2).1 (a_rep 2).2) (a_slC.getD 2 0) (a_sbC.getD 2 []) = (a_fl.drop 313).take 10 := by decide +kernel
theorem a_req_2 : ∀ w ∈ a_req (.string (a_rep 2).1 (a_rep 2).2) (a_slC.getD 2 0) (a_sbC.getD 2 []), w ∈ a_fl := fun w h => List.mem_of_mem_drop (List.mem_of_mem_take (by rw [← a_rq_2]; exact h))
theorem a_rq_3 : a_req (.string (a_rep 3).1 (a_rep 3).2) (a_slC.getD 3 0) (a_sbC.getD 3 []) = (a_fl.drop 324).take 12 := by decide +kernel
theorem a_req_3 : ∀ w ∈ a_req (.string (a_rep 3).1 (a_rep 3).2) (a_slC.getD 3 0) (a_sbC.getD 3 []), w ∈ a_fl := fun w h => List.mem_of_mem_drop (List.mem_of_mem_take (by rw [← a_rq_3]; exact h))
theorem a_rq_4 : a_req (.string (a_rep 4).1 (a_rep 4).2) (a_slC.getD 4 0) (a_sbC.getD 4 []) = (a_fl.drop 338).take 11 := by decide +kernel
theorem a_req_4 : ∀ w ∈ a_req (.string (a_rep 4).1 (a_rep 4).2) (a_slC.getD 4 0) (a_sbC.getD 4 []), w ∈ a_fl := fun w h => List.mem_of_mem_drop (List.mem_of_mem_take (by rw [← a_rq_4]; exact h))
theorem a_rq_5 : a_req (.string (a_rep 5).1 (a_rep 5).2) (a_slC.getD 5 0) (a_sbC.getD 5 []) = (a_fl.drop 597).take 11 := by decide +kernel
theorem a_req_5 : ∀ w ∈ a_req (.string (a_rep 5).1 (a_rep 5).2) (a_slC.getD 5 0) (a_sbC.getD 5 []), w ∈ a_fl := fun w h => List.mem_of_mem_drop (List.mem_of_mem_take (by rw [← a_rq_5]; exact h))
theorem a_rq_6 : a_req (.string (a_rep 6).1 (a_rep 6).2) (a_slC.getD 6 0) (a_sbC.getD 6 []) = (a_fl.drop 618).take 13 := by decide +kernel
theorem a_req_6 : ∀ w ∈ a_req (.string (a_rep 6).1 (a_rep 6).2) (a_slC.getD 6 0) (a_sbC.getD 6 []), w ∈ a_fl := fun w h => List.mem_of_mem_drop (List.mem_of_mem_take (by rw [← a_rq_6]; exact h))
theorem a_req_ok : ∀ i, i < 7 → ∀ w ∈ a_req (.string (a_rep i).1 (a_rep i).2) (a_slC.getD i 0) (a_sbC.getD i []), w ∈ a_fl := fun i hi => match i, hi with
  | 0, _ => a_req_0
  | 1, _ => a_req_1
  | 2, _ => a_req_2
  | 3, _ => a_req_3
  | 4, _ => a_req_4
  | 5, _ => a_req_5
  | 6, _ => a_req_6
theorem a_eqL_in : ∀ q ∈ a_strs, (q.1, q.2.1) = a_rep q.2.2.2 ∨ Cond.eq (.string (a_rep q.2.2.2).1 (a_rep q.2.2.2).2) (.string q.1 q.2.1) ∈ a_fl := fun q hq => Or.inl ((by decide : ∀ q ∈ a_strs, (q.1, q.2.1) = a_rep q.2.2.2) q hq)
theorem a_thr_in : ∀ q ∈ a_thr, Cond.exactly (.string RX8 q.1) "java/lang/String" ∈ a_fl := List.forall_mem_cons.mpr ⟨List.mem_of_getElem? (i := 389) (by decide +kernel), List.forall_mem_cons.mpr ⟨List.mem_of_getElem? (i := 466) (by decide +kernel), List.forall_mem_cons.mpr ⟨List.mem_of_getElem? (i := 423) (by decide +kernel), List.forall_mem_cons.mpr ⟨List.mem_of_getElem? (i := 352) (by decide +kernel), List.forall_mem_cons.mpr ⟨List.mem_of_getElem? (i := 518) (by decide +kernel), fun w h => nomatch h⟩⟩⟩⟩⟩
theorem a_st_in : ∀ w ∈ ([.eq (.static "java/lang/String" "COMPACT_STRINGS" "Z") (.int 1), .isRef (.static "jdk/internal/util/Preconditions" "SIOOBE_FORMATTER" "Ljava/util/function/BiFunction;"), .isRef (.static Bundle.tN "UNASSIGNED_STACK" Bundle.steD), .isRef (.static Bundle.tN "SUPPRESSED_SENTINEL" Bundle.listD)] : List Cond), w ∈ a_fl := List.forall_mem_cons.mpr ⟨List.mem_of_getElem? (i := 4) (by decide +kernel), List.forall_mem_cons.mpr ⟨List.mem_of_getElem? (i := 5) (by decide +kernel), List.forall_mem_cons.mpr ⟨List.mem_of_getElem? (i := 9) (by decide +kernel), List.forall_mem_cons.mpr ⟨List.mem_of_getElem? (i := 10) (by decide +kernel), fun w h => nomatch h⟩⟩⟩⟩
theorem a_sl_lt : ∀ i, i < 7 → a_slC.getD i 0 < 2 ^ 31 ∧ 0 < a_slC.getD i 0 := by decide +kernel
theorem a_sl_ne : ∀ i, i < 7 → ∀ j, j < 7 → i ≠ j → Int32.ofNat (a_slC.getD i 0) ≠ Int32.ofNat (a_slC.getD j 0) ∨ (a_sbC.getD i []).getD 0 0 ≠ (a_sbC.getD j []).getD 0 0 := by decide +kernel
theorem a_sl_lo (xs : Nat → Int32) {i : Nat} (h : i < 7) : (a_sl xs).getD i 0 = a_slC.getD i 0 := by
  unfold a_sl
  rw [List.getD_eq_getElem?_getD, List.getElem?_append_left (show i < a_slC.length from h), ← List.getD_eq_getElem?_getD]
theorem a_sb_lo (xs : Nat → Int32) {i : Nat} (h : i < 7) : (a_sb xs).getD i [] = a_sbC.getD i [] := by
  unfold a_sb
  rw [List.getD_eq_getElem?_getD, List.getElem?_append_left (show i < a_sbC.length from h), ← List.getD_eq_getElem?_getD]
end
section
/-! The law at its entry. -/
theorem a_str1 {args : Array Value} {s : State} {tm : Term} {len : Nat} {byt : List Int32} {A : Nat → Prop} (hN : len < 2 ^ 31) (h : ∀ w ∈ a_req tm len byt, w.before args s = true) (hA : ∀ a : Nat, a < s.heap.size → ¬ A a) :
    ∃ a t : Nat, tm.eval args s none [] s = some (.ref a) ∧ va_O "java/lang/String" a A s s.heap ∧ va_OF "java/lang/String" "coder" "B" (.int 0) a A s s.heap ∧ va_OF "java/lang/String" "value" "[B" (.ref t) a A s s.heap ∧ va_T .byte t len (fun j => .int (byt.getD j 0)) A s s.heap := by
  obtain ⟨adK, adV, hS, hev⟩ := vk_Sof (N := 1) (tm := fun _ => tm) (len := [len]) (byt := [byt]) (A := A) (args := args) (s := s) (fun i hi => by
      obtain rfl : i = 0 := by omega
      exact hN) (fun i _ => h _ List.mem_cons_self) (fun i _ => h _ (List.mem_cons_of_mem _ List.mem_cons_self)) (fun i _ => h _ (List.mem_cons_of_mem _ (List.mem_cons_of_mem _ List.mem_cons_self))) (fun i hi => by
      obtain rfl : i = 0 := by omega
      exact h _ (List.mem_cons_of_mem _ (List.mem_cons_of_mem _ (List.mem_cons_of_mem _ List.mem_cons_self)))) (fun i hi j hj => by
      obtain rfl : i = 0 := by omega
      exact h _ (List.mem_cons_of_mem _ (List.mem_cons_of_mem _ (List.mem_cons_of_mem _ (List.mem_cons_of_mem _ (List.mem_map.mpr ⟨j, List.mem_range.mpr hj, rfl⟩)))))) (fun i j hi hj hij => by omega) hA
  obtain ⟨h1, h2, h3, h4⟩ := hS.1 0 (by omega)
  exact ⟨adK 0, adV 0, hev 0 (by omega), h1, h2, h3, h4⟩
theorem a_eqs {args : Array Value} {s : State} {t u : Term} {a : Nat} (h : (Cond.eq t u).before args s = true) (ht : t.eval args s none [] s = some (.ref a)) : u.eval args s none [] s = some (.ref a) := by
  cases hv : u.eval args s none [] s with
  | none => simp [Cond.before, Cond.holds, Cond.value, hv, ht] at h
  | some w =>
    simp [Cond.before, Cond.holds, Cond.value, hv, ht] at h
    cases w <;> simp_all
theorem a_OF_inj {n d o : String} {v w : Value} {a : Nat} {A : Nat → Prop} {U : State} {H : Heap} (h1 : va_OF o n d v a A U H) (h2 : va_OF o n d w a A U H) : v = w := by
  obtain ⟨cf, k, i, f, cell, g1, g2, g3, g4, g5, g6⟩ := h1
  obtain ⟨cf', k', i', f', cell', g1', g2', g3', g4', g5', g6'⟩ := h2
  cases Option.some.inj (g1.symm.trans g1')
  cases Option.some.inj (g3.symm.trans g3')
  exact Option.some.inj (g5.symm.trans g5')
theorem a_entry {s : State} {args : Array Value} {b L : Nat} {xs : Nat → Int32} (hts : ∀ w ∈ lw_tbl, w.before args s = true) (hgv : (Jvm.Cond.and given_1 narrow_1).before args s = true) (hX : va_X b L xs s s.heap) (hbl : b < s.heap.size) (ht7 : a_tn xs = 7) :
    ∃ ad : Nat → Nat, ad a_big = b ∧ a_Amb xs L ad (fun q : Nat => s.heap.size ≤ q) s s.heap := by
  have hfl : ∀ w ∈ a_fl, w.before args s = true := flat_of_before _ hgv
  have hA : ∀ a : Nat, a < s.heap.size → ¬ (fun q : Nat => s.heap.size ≤ q) a := fun a h => Nat.not_le.mpr h
  have h0 : ∀ i : Nat, ∃ q : Nat × Nat, i < 7 → (Term.string (a_rep i).1 (a_rep i).2).eval args s none [] s = some (.ref q.1) ∧ va_O "java/lang/String" q.1 (fun q : Nat => s.heap.size ≤ q) s s.heap ∧ va_OF "java/lang/String" "coder" "B" (.int 0) q.1 (fun q : Nat => s.heap.size ≤ q) s s.heap ∧ va_OF "java/lang/String" "value" "[B" (.ref q.2) q.1 (fun q : Nat => s.heap.size ≤ q) s s.heap ∧ va_T .byte q.2 (a_slC.getD i 0) (fun j => .int ((a_sbC.getD i []).getD j 0)) (fun q : Nat => s.heap.size ≤ q) s s.heap := by
    intro i
    by_cases hi : i < 7
    · obtain ⟨a, t, q⟩ := a_str1 (a_sl_lt i hi).1 (fun w hw => hfl w (a_req_ok i hi w hw)) hA
      exact ⟨(a, t), fun _ => q⟩
    · exact ⟨(0, 0), fun h => absurd h hi⟩
  obtain ⟨ak, hak⟩ := Classical.axiomOfChoice h0
  have e0 : ∀ i, (if a_big + 1 + i = a_big then b else (ak (a_big + 1 + i - (a_big + 1))).1) = (ak i).1 := fun i => by
    rw [if_neg (by omega), show a_big + 1 + i - (a_big + 1) = i by omega]
  refine ⟨fun i => if i = a_big then b else (ak (i - (a_big + 1))).1, if_pos rfl, ⟨?_, ?_, ?_⟩, ⟨fun i => (ak i).2, ?_⟩, ?_, ?_, ⟨?_, ?_⟩, ?_, ?_, ⟨?_, ?_⟩, ?_⟩
  · show va_X (if a_big = a_big then b else _) L xs s s.heap
    rw [if_pos rfl]; exact hX
  · show (if a_big = a_big then b else _) < s.heap.size
    rw [if_pos rfl]; exact hbl
  · show ¬ s.heap.size ≤ (if a_big = a_big then b else _)
    rw [if_pos rfl]; exact hA b hbl
  · have e1 : (fun i => (fun i => if i = a_big then b else (ak (i - (a_big + 1))).1) (a_big + 1 + i)) = fun i => (ak i).1 := funext e0
    rw [e1, ht7]
    refine ⟨fun i hi => by rw [a_sl_lo xs hi, a_sb_lo xs hi]; exact (hak i hi).2, fun i j hi hj e9 => ?_⟩
    by_cases hij : i = j
    · exact hij
    · exfalso
      obtain ⟨-, -, -, g1, cell1, t1, t2, t3, t4, t5, t6, t7⟩ := hak i hi
      obtain ⟨-, -, -, g2, cell2, u1, u2, u3, u4, u5, u6, u7⟩ := hak j hj
      have e9' : (ak i).1 = (ak j).1 := e9
      rw [e9'] at g1
      have et := a_OF_inj g1 g2
      have et2 : (ak i).2 = (ak j).2 := by injection et
      rw [et2] at t1
      cases Option.some.inj (t1.symm.trans u1)
      rcases a_sl_ne i hi j hj hij with h9 | h9
      · exact h9 (t5.symm.trans u5)
      · have := (t6 0 (a_sl_lt i hi).2).symm.trans (u6 0 (a_sl_lt j hj).2)
        have e8 := Option.some.inj this
        injection e8 with e8
        exact h9 e8
  · intro q hq
    have hlt : ∀ q ∈ a_strs, q.2.2.2 < 7 := by decide
    have h1 : (Cond.stringRef q.1 q.2.1 q.2.2.1).before args s = true := hts _ (a_sr_in _ (List.mem_append_left _ (List.mem_map.mpr ⟨q, hq, rfl⟩)))
    have h2 : (Term.string q.1 q.2.1).eval args s none [] s = some (.ref (ak q.2.2.2).1) := by
      rcases a_eqL_in q hq with e9 | e9
      · have := (hak q.2.2.2 (hlt q hq)).1
        rw [← e9] at this
        exact this
      · exact a_eqs (hfl _ e9) (hak q.2.2.2 (hlt q hq)).1
    show vk_R q.1 q.2.1 q.2.2.1 (if a_big + 1 + q.2.2.2 = a_big then b else (ak (a_big + 1 + q.2.2.2 - (a_big + 1))).1) s
    rw [e0]
    exact vk_R.of (A := args) h1 h2
  · intro q hq
    have h1 : (Cond.stringRef RX8 q.1 q.2).before args s = true := hts _ (a_sr_in _ (List.mem_append_right _ (List.mem_map.mpr ⟨q, hq, rfl⟩)))
    obtain ⟨a, c, cA, kA, q1, -⟩ := Cond.exactly_spec (args := args) (first := s) (o := none) (s := s) (idx := []) (t := .string RX8 q.1) (cls := "java/lang/String") (hfl _ (a_thr_in q hq))
    exact ⟨a, vk_R.of (A := args) h1 q1⟩
  · exact vx_Zqof (hts _ (a_e_in _ (List.mem_of_getElem? (i := 2) rfl))) (hts _ (a_e_in _ (List.mem_of_getElem? (i := 6) rfl))) (hfl _ (a_st_in _ (List.mem_of_getElem? (i := 2) rfl))) hA
  · exact vx_Zqof (hts _ (a_e_in _ (List.mem_of_getElem? (i := 3) rfl))) (hts _ (a_e_in _ (List.mem_of_getElem? (i := 6) rfl))) (hfl _ (a_st_in _ (List.mem_of_getElem? (i := 3) rfl))) hA
  · exact va_Zof (hts _ (a_e_in _ (List.mem_of_getElem? (i := 0) rfl))) (hts _ (a_e_in _ (List.mem_of_getElem? (i := 4) rfl))) (va_eqt (hfl _ (a_st_in _ (List.mem_of_getElem? (i := 0) rfl)))) hA
  · exact va_Zqof (hts _ (a_e_in _ (List.mem_of_getElem? (i := 1) rfl))) (hts _ (a_e_in _ (List.mem_of_getElem? (i := 5) rfl))) (hfl _ (a_st_in _ (List.mem_of_getElem? (i := 1) rfl))) hA
  · exact va_AO.of (hts _ (a_e_in _ (List.mem_of_getElem? (i := 7) rfl)))
  · exact hts (.arrayOver (.array .int)) (a_e_in _ (List.mem_of_getElem? (i := 8) rfl))
  · intro w hw
    have := List.mem_filter.mp hw
    exact va_tabs (a_isn_tab this.2) rfl (hts w this.1)
theorem a_D {s : State} {args : Array Value} (hts : ∀ w ∈ lw_tbl, w.before args s = true) : ∃ D : va_G, va_K D vwCl [] s := by
  have h0 : ∀ ci : Nat, ∃ q : ClassId × (Nat → Nat), ci < 10 → u_Kn s (a_cn ci) (a_T ci) (a_nf ci) q.1 q.2 := by
    intro ci
    by_cases hi : ci < 10
    · obtain ⟨c9, i9, h9⟩ := u_known (C := a_cn ci) (T := a_T ci) (N := a_nf ci) (n := a_nf ci) (ws := lw_good) (args := args) (fun w hw => hts w (List.mem_filter.mp hw).1) (a_cw hi) (hts _ (a_inst_in _ (List.mem_map.mpr ⟨ci, List.mem_range.mpr hi, rfl⟩)))
      exact ⟨(c9, i9), fun _ => h9⟩
    · exact ⟨(0, fun _ => 0), fun h => absurd h hi⟩
  obtain ⟨f, hf⟩ := Classical.axiomOfChoice h0
  refine ⟨(fun k => (f k).1, fun k => (f k).2), fun k q hk => ?_, fun k q hk => by simp at hk⟩
  by_cases hi : k < 10
  · have := a_cl hi
    cases Option.some.inj (hk.symm.trans this)
    exact hf k hi
  · rw [List.getElem?_eq_none (by show 10 ≤ k; omega)] at hk
    cases hk
end
section
/-! THE CLAIM OUT OF ONE WALK OF THE LAW'S BODY. Your part is whole_start (and what it stands on); all else here is the same for every law, but numbers. -/
def R_law : String := "WeatherInsuranceLaw"
def lw_P (b : Addr) (xs : List Int32) (args : Array Value) (s : State) : Prop := args = #[.ref b] ∧ s.IntsAt b xs ∧ xs.length ≤ 260 ∧ (Jvm.Cond.and given_1 narrow_1).before args s = true
def lw_Q (_ : Array Value) (s : State) (o : Outcome) (t : State) : Prop := o = .returned (some (.int 1)) ∧ Framed s o t [] 600074 7301550
def lw_Z (below : List Frame) (a : Array Value) (s : State) : State → Prop := fun t => ∃ o, t.status = .running ∧ Ended t below o ∧ lw_Q a s o t
/-- the law's own end, with 1 on the stack, nothing written that was there before, its room as the claim has it -/
theorem lw_ret {p : Program} {l : Launch} {e : Env} {s : State} {m : MethodId} {below : List Frame} {meth : Method} {c : Code} {b : Nat} (hx : p.tables.exec = Jvm.exec) (hb : c.code = code) (hr : meth.sig.returnType = ret) (hlocks : meth.locks = false) {pc : Nat} {H : Heap} {ls : Array Slot} (hdg : decode code pc = .ok (.ireturn, 1)) : W p l e room_1 s m #[Value.ref b] below meth c H [] 600074 7301550 (lw_Z below #[Value.ref b] s) (F0 m pc ls [.int 1]) := by
  intro T hT X
  obtain ⟨fs, hret, hrun, hended, hW, hframe⟩ := X.leave (v := some (.int 1)) (hlocks := hlocks) (fun h => by rw [hr] at h; cases h)
  have hmeth' : T.vm.method? m = some meth := X.method'
  refine ⟨T.setFrames fs, ?_, .returned (some (.int 1)), hrun, hended, rfl, ⟨_, rfl⟩, hW, hframe⟩
  jvm_step X.here [X.here.top, hx, hb, hdg, hmeth', hr, ret, narrow_b1]
  (try refine ⟨rfl, ?_⟩); (try refine ⟨rfl, ?_⟩)
  first | (intro acts; rw [hret _ acts rfl rfl rfl]) | rw [hret _ _ rfl rfl rfl]
  exact Steps.refl _
/-- what holds at the law's entry: the machine, the code, the tables' words (any of lw_tbl by 'hts w (by decide +kernel)'), the script of L ints xs at the cell b, what the Statement gives of the start (any of its parts by flat_of_before) -/
def lw_At (p : Program) (s : State) (m : MethodId) (meth : Method) (c : Code) (b L : Nat) (xs : Nat → Int32) : Prop :=
  p.tables.exec = Jvm.exec ∧ c.code = code ∧ meth.sig.returnType = ret ∧ c.maxLocals = 6 ∧ s.vm.findClass R_law = some m.cls ∧ (∀ w ∈ lw_tbl, w.before #[Value.ref b] s = true) ∧ va_X b L xs s s.heap ∧ b < s.heap.size ∧ meth.locks = false ∧ (Jvm.Cond.and given_1 narrow_1).before #[Value.ref b] s = true
/-! The law's walk out of a run of it on the abstract machine. -/
section A20
variable {xs : Nat → Int32} {L : Nat} {MT : Nat → Option a_Md} {q : a_Md}
theorem a_1i {pc : Nat} {ls st : List Value} {h h0 : a_H} {cb nb : Nat} {v : Int32} (hq : m_thr q = false) (hz : a_1 MT xs L q pc ls st h cb nb = some (.inr (.inr (.inl (some (.int v)), h0)))) : st = [.int v] ∧ ∃ r, a_at (m_is q) pc = some (.ireturn, r) := by
  have noins : ∀ {o : Option a_S}, (o.map Sum.inl : Option a_O) = some (.inr (.inr (.inl (some (.int v)), h0))) → False := fun h => by
    obtain ⟨x, -, h2⟩ := a_map_l h
    cases h2
  unfold a_1 at hz
  split at hz
  · cases hz
  rename_i i len a b hat
  split at hz
  · split at hz
    · split at hz
      · split at hz
        · cases hz; exact ⟨rfl, _, hat⟩
        · cases hz
      · cases hz
    · cases hz
  · split at hz
    · split at hz <;> cases hz
    · cases hz
  · split at hz
    · split at hz <;> cases hz
    · cases hz
  · split at hz
    · split at hz <;> cases hz
    · cases hz
  · split at hz
    · split at hz
      · rename_i hc
        rw [hq] at hc
        cases hc.1
      · cases hz
    · exact (noins hz).elim
  · split at hz
    · rw [Option.map_eq_some_iff] at hz
      obtain ⟨x, -, ez⟩ := hz
      cases ez
    · cases hz
  · split at hz
    · rw [Option.map_eq_some_iff] at hz
      obtain ⟨x, -, ez⟩ := hz
      cases ez
    · split at hz
      · split at hz <;> cases hz
      · cases hz
  · split at hz
    · rw [Option.map_eq_some_iff] at hz
      obtain ⟨x, -, ez⟩ := hz
      cases ez
    · split at hz
      · split at hz <;> cases hz
      · cases hz
  · split at hz
    · rw [Option.map_eq_some_iff] at hz
      obtain ⟨x, -, ez⟩ := hz
      cases ez
    · split at hz
      · split at hz <;> cases hz
      · cases hz
  · exact (noins hz).elim
/-- some steps, calls included: where they lead -/
def a_go (K : Nat → List Value → a_H → Option (a_R × a_H)) (MT : Nat → Option a_Md) (xs : Nat → Int32) (L : Nat) (q : a_Md) : Nat → a_S → Option a_S
  | 0, z => some z
  | f + 1, z => match a_1 MT xs L q z.1 z.2.1 z.2.2.1 z.2.2.2.1 z.2.2.2.2.1 z.2.2.2.2.2 with
    | some (.inl z1) => a_go K MT xs L q f z1
    | some (.inr (.inl z1)) => match MT z1.1, K z1.1 z1.2.1 z1.2.2.2.2.2.1 with
      | some y, some (.inl v, h') => a_go K MT xs L q f (z1.2.2.1 + 3, z1.2.2.2.1, v.toList ++ z1.2.2.2.2.1, h', z1.2.2.2.2.2.2.1 - m_kc y, z1.2.2.2.2.2.2.2 - m_kn y)
      | _, _ => none
    | _ => none
section A20b
variable {p : Program} {l : Launch} {e : Env} {R : Room} {s : State} {H0 : Heap} {m : MethodId} {args : Array Value} {below : List Frame} {meth : Method} {c : Code} {Q : State → Prop}
variable {D : va_G} {A : Nat → Prop} {nL : Nat} {ad0 : Nat → Nat} {n0 : Nat} {cc : ByteArray} {xs : Nat → Int32} {L : Nat} {MT : Nat → Option a_Md} {q : a_Md}
theorem a_goG {K : Nat → List Value → a_H → Option (a_R × a_H)} (X : a_cx p s H0 m args meth c cc (m_y q).cls nL A xs L ad0 (m_ini q)) (hcc : m_cc q = cc) (hok : a_okm MT q) (hRf : m_fr q ≤ R.frames) (hRl : m_lo q ≤ R.locals)
    (hK : ∀ i y vs h r1 h1, MT i = some y → K i vs h = some (r1, h1) → a_Con l y xs L vs h r1 h1 ∧ (m_thr y = false → ∃ v, r1 = .inl v)) :
    ∀ (f : Nat) (z z' : a_S), a_go K MT xs L q f z = some z' → a_GS p l e R s H0 m args below meth c Q D A nL ad0 n0 z' → a_GS p l e R s H0 m args below meth c Q D A nL ad0 n0 z := by
  intro f
  induction f with
  | zero => intro z z' hz k; cases hz; exact k
  | succ f ih =>
    intro z z' hz k
    obtain ⟨pc, ls, st, h, cb, nb⟩ := z
    unfold a_go at hz
    dsimp only at hz
    show a_G p l e R s H0 m args below meth c Q D A nL ad0 n0 pc ls st h cb nb
    split at hz
    · rename_i z1 h1
      exact a_s1 X hcc hok.2.1 hRf hRl h1 (ih _ _ hz k)
    · rename_i z1 h1
      split at hz
      · rename_i y v h' hy hk
        exact a_k1 X hcc hok hRf hRl h1 hy (hK _ _ _ _ _ _ hy hk) (fun v9 e9 => by cases e9; exact ih _ _ hz k) (fun k e9 => by cases e9)
      · cases hz
    · cases hz
end A20b
/-- what the law's row of the methods' table must say -/
def a_lawq (q : a_Md) : Prop := (m_y q).cls = R_law ∧ m_cc q = code ∧ m_nL q = 6 ∧ m_hh q = [] ∧ m_thr q = false ∧ m_ini q = false ∧ m_fr q ≤ 15 ∧ m_lo q ≤ 578
theorem lw_lt (l : Launch) (hflags : l.flags = flags0) : l.stackTraces = false := by
  unfold Launch.stackTraces
  rw [hflags]
  decide +kernel
/-- the law's end, out of a run from somewhere in its body -/
theorem a_fin {p : Program} {e : Env} {s : State} {H0 : Heap} {m : MethodId} {below : List Frame} {meth : Method} {c : Code} {A : Nat → Prop} {ad0 : Nat → Nat} {D : va_G} {n0 : Nat} (l : Launch) (hflags : l.flags = flags0) {b : Nat} (hr : meth.sig.returnType = ret) (hlocks : meth.locks = false)
    (X : a_cx p s H0 m #[Value.ref b] meth c code (m_y q).cls 6 A xs L ad0 (m_ini q)) (hA : ∀ x, A x → s.heap.size ≤ x) (hS0 : s.heap.size ≤ H0.size ∧ ∀ x : Nat, x < s.heap.size → H0[x]? = s.heap[x]?)
    (hMT : ∀ i y, MT i = some y → a_okm MT y) (hok : a_okm MT q) (hq : a_lawq q) {F f d pc : Nat} {ls st : List Value} {h h0 : a_H} {cb nb : Nat}
    (hrun : a_ex (a_run MT xs L F d) MT xs L q f pc ls st h cb nb = some (.inl (some (.int 1)), h0)) : a_G p l e room_1 s H0 m #[Value.ref b] below meth c (lw_Z below #[Value.ref b] s) D A 6 ad0 n0 pc ls st h cb nb := by
  obtain ⟨q1, q2, q3, q4, q5, q6, q9, q10⟩ := hq
  have hl := lw_lt l hflags
  refine a_sound (R := room_1) (n0 := n0) (Q := lw_Z below #[Value.ref b] s) (D := D) (below := below) (e := e) (l := l) (nL := 6) (h0 := h0) (res := .inl (some (.int 1))) (K := a_run MT xs L F d) X q2 hok (by show m_fr q ≤ 15; exact q9) (by show m_lo q ≤ 578; exact q10) (fun i y vs h r1 h1 hy hz => a_cons hl hMT d i y vs h r1 h1 hy hz)
    (fun pc ls st h9 cb nb hz9 => ?_)
    (fun pc k ls r h9 cb nb hz9 hpc => by
      exfalso
      unfold a_hx at hz9
      rw [q4] at hz9
      simp only [List.zip_nil_left, List.find?_nil] at hz9
      rw [if_neg (by rw [q5]; intro h; cases h.1)] at hz9
      cases hz9) f pc ls st h cb nb hrun
  obtain ⟨e1, r, e2⟩ := a_1i q5 hz9
  subst e1
  obtain ⟨len, a9, b9⟩ := r
  obtain ⟨hd, hw⟩ := a_row hok.2.1 q2 e2
  obtain rfl : len = 1 := hw
  intro ad ca H locs cells slots ls' h1 h2 h3 h4 h5 h6 h7 h8 g9 g10
  refine W.widen (k := 600074) (n := 7301550) (by have : cells + cb ≤ 600074 := g9; omega) (by have : slots + nb ≤ 7301550 := g10; omega) ?_
  refine va_forget (fun q hq => hA _ (h8.2.2 q hq)) ?_
  exact lw_ret X.1 X.2.1 hr hlocks hd
/-- the law's entry -/
theorem a_start {p : Program} {e : Env} {s : State} {m : MethodId} {below : List Frame} {meth : Method} {c : Code} (l : Launch) {b : Nat} {Q : State → Prop} (C0 : lw_At p s m meth c b L xs) (ht7 : a_tn xs = 7) (hqc : (m_y q).cls = R_law) (hqi : m_ini q = false)
    (k : ∀ (D : va_G) (ad : Nat → Nat), a_cx p s s.heap m #[Value.ref b] meth c code (m_y q).cls 6 (fun x => s.heap.size ≤ x) xs L ad (m_ini q) → a_G p l e room_1 s s.heap m #[Value.ref b] below meth c Q D (fun x => s.heap.size ≤ x) 6 ad 0 0 (a_loc 6 [.ref a_big]) [] [] 600074 7301550) :
    W p l e room_1 s m #[Value.ref b] below meth c s.heap [] 0 0 Q (entryFrame m ([Value.ref b] : List Value).toArray 6) := by
  obtain ⟨hx, hb, hr, hml, hown, hts, hX, hbl, hlocks, hgv⟩ := C0
  obtain ⟨ad, had, hAmb⟩ := a_entry hts hgv hX hbl ht7
  obtain ⟨D, hK⟩ := a_D hts
  have X : a_cx p s s.heap m (#[Value.ref b]) meth c code (m_y q).cls 6 (fun q : Nat => s.heap.size ≤ q) xs L ad (m_ini q) :=
    ⟨hx, hb, hml, by rw [hqc]; exact hown, fun w hw => hts w (List.mem_filter.mp hw).1, fun q hq => hq, hAmb, fun hi => by rw [hqi] at hi; cases hi⟩
  rw [lg_entry_eq]
  have hl0 : a_L ad 6 (a_loc 6 [.ref a_big]) ((lg_sl ([Value.ref b]) ++ List.replicate (6 - (lg_sl ([Value.ref b])).length) Slot.unset).toArray) := by
    have := a_loc_L ad (vs := [.ref a_big]) (nL := 6) (by decide)
    have e9 : [Value.ref a_big].map (a_v ad) = [Value.ref b] := by show [Value.ref (ad a_big)] = _; rw [had]
    rw [e9] at this
    exact this
  exact k D ad X ad (fun _ => 0) s.heap [] 0 0 _ (a_agr_refl _ _) (Nat.le_refl _) hl0 (a_loc_ok (fun v hv i hi => by
      rcases List.mem_singleton.mp hv with rfl
      cases hi
      exact Or.inr (Nat.le_refl _))) (fun v hv => by cases hv) (fun i c9 hi => by cases hi) ⟨(fun k q h => by simp [a_ws] at h), ⟨(fun i j p q h => by simp [a_ws] at h), (fun k q h => by simp [a_ws] at h)⟩, hK, (fun i x9 hi => by cases hi)⟩ va_S.rf (Nat.le_of_ble_eq_true rfl) (Nat.le_of_ble_eq_true rfl)
end A20
end
section
/-! The methods' table, checked by program. -/
def a_ch (j : Nat) : List Cond := match j with
  | 0 => k2_sels lw_privs
  | 1 => tables_1_1
  | 2 => tables_1_2
  | 3 => tables_1_3
  | 4 => tables_1_4
  | 5 => tables_1_5
  | 6 => tables_1_6
  | _ => []
theorem a_ch_in (j : Nat) {w : Cond} (h : w ∈ a_ch j) : w ∈ lw_tbl := by
  unfold lw_tbl tables_1
  simp only [List.mem_append]
  unfold a_ch at h
  split at h
  · exact Or.inl h
  · exact Or.inr (Or.inl h)
  · exact Or.inr (Or.inr (Or.inl h))
  · exact Or.inr (Or.inr (Or.inr (Or.inl h)))
  · exact Or.inr (Or.inr (Or.inr (Or.inr (Or.inl h))))
  · exact Or.inr (Or.inr (Or.inr (Or.inr (Or.inr (Or.inl h)))))
  · exact Or.inr (Or.inr (Or.inr (Or.inr (Or.inr (Or.inr h)))))
  · cases h
/-- a good word at its place -/
def w_g (jo : Nat) (w : Cond) : Bool := goodWord w && decide ((a_ch (jo / 10000))[jo % 10000]? = some w)
def w_n (jo : Nat) (w : Cond) : Bool := a_isn w && decide ((a_ch (jo / 10000))[jo % 10000]? = some w)
theorem w_g_in {jo : Nat} {w : Cond} (h : w_g jo w = true) : w ∈ lw_good := by
  unfold w_g at h
  rw [Bool.and_eq_true, decide_eq_true_eq] at h
  exact List.mem_filter.mpr ⟨a_ch_in _ (List.mem_of_getElem? h.2), h.1⟩
theorem w_n_in {jo : Nat} {w : Cond} (h : w_n jo w = true) : w ∈ a_nest := by
  unfold w_n at h
  rw [Bool.and_eq_true, decide_eq_true_eq] at h
  exact List.mem_filter.mpr ⟨a_ch_in _ (List.mem_of_getElem? h.2), h.1⟩
/-- what every method's words say of it: kind 0 static, 1 of an object, 2 constructor -/
def a_mf (k : Nat) (y : a_Md) : Prop := Cond.initialized (m_y y).cls ∈ lw_good ∧ a_cwd y ∈ lw_good ∧ ((m_y y).cls ≠ "java/lang/invoke/MethodHandle" ∧ (m_y y).cls ≠ "java/lang/invoke/VarHandle") ∧ a_np y = some (if k = 0 then m_na y else m_na y - 1) ∧
  (k = 0 → Cond.static (m_y y) ∈ lw_good) ∧ (k = 1 → Cond.instanceMethod (m_y y) ∈ lw_good ∧ Cond.selects (m_y y).cls (m_y y) (m_y y) ∈ lw_good) ∧ (k = 2 → Cond.instanceMethod (m_y y) ∈ lw_good ∧ (m_y y).name = "<init>" ∧ m_rt y = none ∧ m_thr y = false ∧ m_hh y = [])
def a_mfc (k : Nat) (y : a_Md) (hs : List Nat) : Bool := w_g (hs.getD 0 0) (.initialized (m_y y).cls) && w_g (hs.getD 1 0) (a_cwd y) && decide ((m_y y).cls ≠ "java/lang/invoke/MethodHandle" ∧ (m_y y).cls ≠ "java/lang/invoke/VarHandle") && decide (a_np y = some (if k = 0 then m_na y else m_na y - 1)) &&
  (match k with
    | 0 => w_g (hs.getD 2 0) (.static (m_y y))
    | 1 => w_g (hs.getD 2 0) (.instanceMethod (m_y y)) && w_g (hs.getD 3 0) (.selects (m_y y).cls (m_y y) (m_y y))
    | 2 => w_g (hs.getD 2 0) (.instanceMethod (m_y y)) && decide ((m_y y).name = "<init>") && decide (m_rt y = none) && !(m_thr y) && decide (m_hh y = [])
    | _ => false)
theorem a_mfc_ok {k : Nat} {y : a_Md} {hs : List Nat} (h : a_mfc k y hs = true) : a_mf k y := by
  unfold a_mfc at h
  simp only [Bool.and_eq_true, decide_eq_true_eq] at h
  obtain ⟨⟨⟨⟨h1, h2⟩, h3⟩, h4⟩, h5⟩ := h
  refine ⟨w_g_in h1, w_g_in h2, h3, h4, fun e => ?_, fun e => ?_, fun e => ?_⟩
  · subst e; exact w_g_in h5
  · subst e
    simp only [Bool.and_eq_true] at h5
    exact ⟨w_g_in h5.1, w_g_in h5.2⟩
  · subst e
    simp only [Bool.and_eq_true, decide_eq_true_eq, Bool.not_eq_true'] at h5
    obtain ⟨⟨⟨⟨g1, g2⟩, g3⟩, g4⟩, g5⟩ := h5
    exact ⟨w_g_in g1, g2, g3, g4, g5⟩
/-- the throws: the entry of the constructor's link, the class -/
def a_thL : List (Nat × Nat) := [(303, 2), (372, 0), (377, 1)]
theorem a_thL_ok : ∀ z ∈ a_thL, ∀ w ∈ a_thws z.1 z.2, w ∈ lw_good ∨ w ∈ a_nest := by
  decide +kernel
def a_mt (MK : List (Nat × a_Md)) (i : Nat) : Option a_Md := (MK[i]?).map (·.2)
def a_rmc (q y : a_Md) : Bool := decide (m_fr y + 1 ≤ m_fr q) && decide (8 + (m_nL y + 11) + m_lo y ≤ m_lo q)
def a_lkc (own : String) (n b jo : Nat) (y : MethodName) : Bool := match b with
  | 0 => w_g jo (.methodLink own n y)
  | 1 => w_n jo (.methodLinkNest own n y RX8)
  | _ => false
def a_thc (q : a_Md) (pc a is ic : Nat) : Bool := a_thr.any (fun z => z.1 == is) && decide (decode (m_cc q) (pc + 3) = .ok (.dup, 1)) && decide (decode (m_cc q) (pc + 4) = .ok (.ldc_w is, 3)) && decide (decode (m_cc q) (pc + 7) = .ok (.invokespecial ic, 3)) && decide (decode (m_cc q) (pc + 10) = .ok (.athrow, 1)) && decide ((ic, a - 100) ∈ a_thL)
def a_kw (MK : List (Nat × a_Md)) (q : a_Md) (pc : Nat) (i : Instr) (len a b : Nat) (hs : List Nat) : Bool := match i with
  | .getfield n => decide (len = 3) && decide (a < 10) && decide (b < a_nf a) && w_g (hs.getD 0 0) (.fieldLink (m_y q).cls n (a_T a b).1 (a_T a b).2.1 (a_T a b).2.2.1)
  | .putfield n => decide (len = 3) && decide (a < 10) && decide (b < a_nf a) && w_g (hs.getD 0 0) (.fieldLink (m_y q).cls n (a_T a b).1 (a_T a b).2.1 (a_T a b).2.2.1) && (!(a_T a b).2.2.2 || (m_ini q && decide ((a_T a b).1 = (m_y q).cls)))
  | .new n => decide (len = 3) && (if a < 100 then w_g (hs.getD 0 0) (.classLink (m_y q).cls n (a_cn a)) && w_g (hs.getD 1 0) (.instantiable (a_cn a) (a_nf a)) && w_g (hs.getD 2 0) (.initialized (a_cn a))
      else decide ((m_y q).cls = RX8) && w_g (hs.getD 0 0) (.classLink RX8 n (a_xn (a - 100))) && w_g (hs.getD 1 0) (.initialized (a_xn (a - 100))) && a_thc q pc a (hs.getD 2 0) (hs.getD 3 0) && decide (6 ≤ m_fr q) && decide (90 ≤ m_lo q))
  | .newarray t => decide (len = 2) && w_g (hs.getD 0 0) (.arrayClass (newarray.typeOf t))
  | .multianewarray n d => decide (len = 4) && decide (d = 2) && w_g (hs.getD 0 0) (.classLink (m_y q).cls n "[[I") && w_g (hs.getD 1 0) (.arrayClass .int)
  | .anewarray n => decide (len = 3) && w_g (hs.getD 0 0) (.classLink (m_y q).cls n RX3) && decide (a = 3)
  | .ldc n => decide (len = 2) && a_strs.any (fun z => z.1 == (m_y q).cls && z.2.1 == n && z.2.2.2 == a)
  | .ldc_w n => decide (len = 3) && a_strs.any (fun z => z.1 == (m_y q).cls && z.2.1 == n && z.2.2.2 == a)
  | .ldc2_w n => decide (len = 3) && w_g (hs.getD 0 0) (.constantLong (m_y q).cls n (Int64.ofNat a))
  | .invokevirtual n => decide (len = 3) && (if 1000 ≤ a then ((decide (a = 1004) && w_g (hs.getD 0 0) (.methodLink (m_y q).cls n yJ0_length_8abf5)) || (decide (a = 1005) && w_g (hs.getD 0 0) (.methodLink (m_y q).cls n yJ0_charAt_5068e))) && decide (6 ≤ m_fr q) && decide (140 ≤ m_lo q)
      else match MK[a]? with
        | some (k, y) => decide (k = 1) && a_rmc q y && decide (m_hh y = []) && w_g (hs.getD 0 0) (.methodLink (m_y q).cls n (m_y y)) && decide (b < 10) && decide (a_cn b = (m_y y).cls)
        | none => false)
  | .invokestatic n => decide (len = 3) && (if 1000 ≤ a then ((decide (a = 1001) && w_g (hs.getD 0 0) (.methodLink (m_y q).cls n Lib.Math.min.name)) || ((decide (a = 1002) && w_g (hs.getD 0 0) (.methodLink (m_y q).cls n Lib.Math.max.name)) || (decide (a = 1003) && w_g (hs.getD 0 0) (.methodLink (m_y q).cls n arraycopyName)))) && decide (1 ≤ m_fr q) && decide (30 ≤ m_lo q)
      else match MK[a]? with
        | some (k, y) => decide (k = 0) && a_rmc q y && (decide (m_hh y = []) || (decide (b = 0) && !(m_thr y))) && a_lkc (m_y q).cls n b (hs.getD 0 0) (m_y y) && (decide (b = 0) || !(m_thr y))
        | none => false)
  | .invokespecial n => decide (len = 3) && (if a = 1000 then w_g (hs.getD 0 0) (.methodLink (m_y q).cls n Lib.objectInit) && decide (1 ≤ m_fr q) && decide (30 ≤ m_lo q)
      else decide (a < 1000) && match MK[a]? with
        | some (k, y) => decide (k = 2) && a_rmc q y && a_lkc (m_y q).cls n b (hs.getD 0 0) (m_y y)
        | none => false)
  | .tableswitch .. => true
  | .sipush _ | .if_icmp .. | .ifCond .. | .goto _ | .iinc .. => decide (len = 3)
  | .bipush _ | .iload _ | .lload _ | .dload _ | .aload _ | .istore _ | .astore _ | .dstore _ => decide (len = 2)
  | _ => decide (len = 1)
theorem a_mt_some {MK : List (Nat × a_Md)} {i : Nat} {y : a_Md} (h : a_mt MK i = some y) : ∃ k, MK[i]? = some (k, y) := by
  unfold a_mt at h
  rw [Option.map_eq_some_iff] at h
  obtain ⟨z, h1, rfl⟩ := h
  exact ⟨z.1, h1⟩
theorem a_lkc_ok {own : String} {n b jo : Nat} {y : MethodName} (h : a_lkc own n b jo y = true) : a_lnk own n b y := by
  unfold a_lkc at h
  split at h
  · exact Or.inl ⟨rfl, w_g_in h⟩
  · exact Or.inr ⟨rfl, w_n_in h⟩
  · cases h
theorem a_kw_ok {MK : List (Nat × a_Md)} (hMK : ∀ z ∈ MK, a_mf z.1 z.2) {q : a_Md} {pc : Nat} {i : Instr} {len a b : Nat} {hs : List Nat} (h : a_kw MK q pc i len a b hs = true) : a_okw (a_mt MK) q pc i len a b := by
  cases i <;> simp only [a_kw, Bool.and_eq_true, decide_eq_true_eq] at h <;> simp only [a_okw] <;> try exact h
  case getfield n => exact ⟨h.1.1.1, h.1.1.2, h.1.2, w_g_in h.2⟩
  case putfield n =>
    obtain ⟨⟨⟨⟨h1, h2⟩, h3⟩, h4⟩, h5⟩ := h
    refine ⟨h1, ⟨h2, h3, w_g_in h4⟩, ?_⟩
    cases hf : (a_T a b).2.2.2 with
    | false => exact Or.inl rfl
    | true =>
      rw [hf] at h5
      simp only [Bool.not_true, Bool.false_or, Bool.and_eq_true, decide_eq_true_eq] at h5
      exact Or.inr ⟨rfl, h5⟩
  case new n =>
    obtain ⟨h1, h2⟩ := h
    refine ⟨h1, ?_⟩
    split at h2
    · rename_i ha
      simp only [Bool.and_eq_true] at h2
      exact Or.inl ⟨ha, w_g_in h2.1.1, w_g_in h2.1.2, w_g_in h2.2⟩
    · rename_i ha
      simp only [Bool.and_eq_true, decide_eq_true_eq] at h2
      obtain ⟨⟨⟨⟨⟨g1, g2⟩, g3⟩, g4⟩, g5⟩, g6⟩ := h2
      unfold a_thc at g4
      simp only [Bool.and_eq_true, decide_eq_true_eq, List.any_eq_true, beq_iff_eq] at g4
      obtain ⟨⟨⟨⟨⟨⟨z, z1, z2⟩, k1⟩, k2⟩, k3⟩, k4⟩, k5⟩ := g4
      have hz := a_thL_ok _ k5
      have ha9 : 100 ≤ a := Nat.not_lt.mp ha
      have z9 : (hs.getD 2 0, z.2) ∈ a_thr := by rw [← z2]; exact z1
      exact Or.inr ⟨ha9, g1, w_g_in g2, w_g_in g3, ⟨hs.getD 2 0, hs.getD 3 0, z.2, z9, k1, k2, k3, k4, hz⟩, g5, g6⟩
  case newarray t => exact ⟨h.1, w_g_in h.2⟩
  case multianewarray n d => exact ⟨h.1.1.1, h.1.1.2, w_g_in h.1.2, w_g_in h.2⟩
  case anewarray n => exact ⟨h.1.1, w_g_in h.1.2, h.2⟩
  case ldc n =>
    obtain ⟨h1, h2⟩ := h
    simp only [List.any_eq_true, Bool.and_eq_true, beq_iff_eq] at h2
    obtain ⟨z, z1, ⟨z2, z3⟩, z4⟩ := h2
    exact ⟨h1, z.2.2.1, by rw [← z2, ← z3, ← z4]; exact z1⟩
  case ldc_w n =>
    obtain ⟨h1, h2⟩ := h
    simp only [List.any_eq_true, Bool.and_eq_true, beq_iff_eq] at h2
    obtain ⟨z, z1, ⟨z2, z3⟩, z4⟩ := h2
    exact ⟨h1, z.2.2.1, by rw [← z2, ← z3, ← z4]; exact z1⟩
  case ldc2_w n => exact ⟨h.1, w_g_in h.2⟩
  case invokevirtual n =>
    obtain ⟨h1, h2⟩ := h
    refine ⟨h1, ?_⟩
    split at h2
    · rename_i ha
      simp only [Bool.and_eq_true, Bool.or_eq_true, decide_eq_true_eq] at h2
      obtain ⟨⟨g1, g2⟩, g3⟩ := h2
      exact Or.inl ⟨ha, g1.imp (fun z => ⟨z.1, w_g_in z.2⟩) (fun z => ⟨z.1, w_g_in z.2⟩), g2, g3⟩
    · rename_i ha
      refine Or.inr ⟨by omega, fun y hy => ?_⟩
      obtain ⟨k, hk⟩ := a_mt_some hy
      rw [hk] at h2
      simp only [Bool.and_eq_true, decide_eq_true_eq, a_rmc] at h2
      obtain ⟨⟨⟨⟨⟨g1, g2⟩, g3⟩, g4⟩, g5⟩, g6⟩ := h2
      obtain ⟨f1, f2, f3, f4, f5, f6, f7⟩ := hMK _ (List.mem_of_getElem? hk)
      subst g1
      exact ⟨⟨g2, f1, f2, f3⟩, g3, w_g_in g4, (f6 rfl).1, (f6 rfl).2, f4, g5, g6⟩
  case invokestatic n =>
    obtain ⟨h1, h2⟩ := h
    refine ⟨h1, ?_⟩
    split at h2
    · rename_i ha
      simp only [Bool.and_eq_true, Bool.or_eq_true, decide_eq_true_eq] at h2
      obtain ⟨⟨g1, g2⟩, g3⟩ := h2
      exact Or.inl ⟨ha, g1.imp (fun z => ⟨z.1, w_g_in z.2⟩) (fun z => z.imp (fun z => ⟨z.1, w_g_in z.2⟩) (fun z => ⟨z.1, w_g_in z.2⟩)), g2, g3⟩
    · rename_i ha
      refine Or.inr ⟨by omega, fun y hy => ?_⟩
      obtain ⟨k, hk⟩ := a_mt_some hy
      rw [hk] at h2
      simp only [Bool.and_eq_true, Bool.or_eq_true, Bool.not_eq_true', decide_eq_true_eq, a_rmc] at h2
      obtain ⟨⟨⟨⟨g1, g2⟩, g3⟩, g4⟩, g5⟩ := h2
      obtain ⟨f1, f2, f3, f4, f5, f6, f7⟩ := hMK _ (List.mem_of_getElem? hk)
      subst g1
      exact ⟨⟨g2, f1, f2, f3⟩, g3, a_lkc_ok g4, fun e => g5.resolve_left (by omega), f5 rfl, f4⟩
  case invokespecial n =>
    obtain ⟨h1, h2⟩ := h
    refine ⟨h1, ?_⟩
    split at h2
    · rename_i ha
      simp only [Bool.and_eq_true, decide_eq_true_eq] at h2
      exact Or.inl ⟨ha, w_g_in h2.1.1, h2.1.2, h2.2⟩
    · rename_i ha
      simp only [Bool.and_eq_true, decide_eq_true_eq] at h2
      obtain ⟨h3, h2⟩ := h2
      refine Or.inr ⟨h3, fun y hy => ?_⟩
      obtain ⟨k, hk⟩ := a_mt_some hy
      rw [hk] at h2
      simp only [Bool.and_eq_true, decide_eq_true_eq, a_rmc] at h2
      obtain ⟨⟨g1, g2⟩, g3⟩ := h2
      obtain ⟨f1, f2, f3, f4, f5, f6, f7⟩ := hMK _ (List.mem_of_getElem? hk)
      subst g1
      obtain ⟨e1, e2, e3, e4, e5⟩ := f7 rfl
      exact ⟨⟨g2, f1, f2, f3⟩, e5, e4, e2, e3, a_lkc_ok g3, e1, f4⟩
def a_kall (MK : List (Nat × a_Md)) (q : a_Md) : List (Nat × Instr × Nat × Nat × Nat) → List (List Nat) → Bool
  | [], _ => true
  | z :: t, hs => decide (decode (m_cc q) z.1 = .ok (z.2.1, z.2.2.1)) && a_kw MK q z.1 z.2.1 z.2.2.1 z.2.2.2.1 z.2.2.2.2 (hs.headD []) && a_kall MK q t hs.tail
theorem a_kall_ok {MK : List (Nat × a_Md)} (hMK : ∀ z ∈ MK, a_mf z.1 z.2) {q : a_Md} : ∀ (l : List (Nat × Instr × Nat × Nat × Nat)) (hs : List (List Nat)), a_kall MK q l hs = true → ∀ z ∈ l, a_oke (a_mt MK) q z := by
  intro l
  induction l with
  | nil => intro hs _ z hz; cases hz
  | cons w t ih =>
    intro hs h z hz
    unfold a_kall at h
    simp only [Bool.and_eq_true, decide_eq_true_eq] at h
    rcases List.mem_cons.mp hz with rfl | hz
    · exact ⟨h.1.1, a_kw_ok hMK h.1.2⟩
    · exact ih _ h.2 z hz
def a_isV (i : Instr) : Bool := match i with
  | .invokevirtual _ => true
  | _ => false
def a_isSS (i : Instr) : Bool := match i with
  | .invokestatic _ => true
  | .invokespecial _ => true
  | _ => false
def a_khh (q : a_Md) (hs : List (Nat × Nat)) : Bool := decide (m_hh q = []) || (!(m_thr q) && decide (m_rt q = some .int ∨ m_rt q = some .boolean) && decide ((m_hh q).length = (m_xk q).length) && decide ((m_hh q).length ≤ 1) && decide ((m_hh q).length = hs.length) && !((m_is q).any fun e => a_isSS e.2.1) &&
  (((m_hh q).zip (m_xk q)).zip hs).all fun z => decide (z.1.1.2.2.2 ≠ 0) && decide (z.1.2 < 4) && w_g z.2.1 (.classLink (m_y q).cls z.1.1.2.2.2 (a_xn z.1.2)) && w_n z.2.2 (.castable (a_xn z.1.2) (a_xn z.1.2)) && (m_is q).all fun e => !(a_isV e.2.1) || (decide (z.1.1.1 ≤ e.1) && decide (e.1 < z.1.1.2.1)))
def a_km (MK : List (Nat × a_Md)) (q : a_Md) (hs : List (List Nat)) (hh : List (Nat × Nat)) : Bool := plainName (m_y q).cls && a_kall MK q (m_is q) hs && a_khh q hh && (!(m_ini q) || decide ((m_y q).name = "<init>"))
theorem a_km_ok {MK : List (Nat × a_Md)} (hMK : ∀ z ∈ MK, a_mf z.1 z.2) {q : a_Md} {hs : List (List Nat)} {hh : List (Nat × Nat)} (h : a_km MK q hs hh = true) : a_okm (a_mt MK) q := by
  unfold a_km at h
  simp only [Bool.and_eq_true, Bool.or_eq_true, Bool.not_eq_true', decide_eq_true_eq] at h
  obtain ⟨⟨⟨h1, h2⟩, h3⟩, h4⟩ := h
  unfold a_khh at h3
  simp only [Bool.and_eq_true, Bool.or_eq_true, Bool.not_eq_true', decide_eq_true_eq] at h3
  refine ⟨h1, a_kall_ok hMK _ _ h2, ?_, fun e => h4.resolve_left (by rw [e]; decide), fun hne => ?_⟩
  · rcases h3 with h3 | ⟨⟨⟨⟨⟨⟨g1, g2⟩, g3⟩, g31⟩, g4⟩, g5⟩, g6⟩
    · exact Or.inl h3
    · refine Or.inr ⟨g1, g2, g3, g31, fun z hz => ?_⟩
      have hlen : ((m_hh q).zip (m_xk q)).length = hh.length := by rw [List.length_zip, ← g3, Nat.min_self, g4]
      obtain ⟨i, hi⟩ := List.getElem?_of_mem hz
      have hi2 : i < hh.length := by rw [← hlen]; exact (List.getElem?_eq_some_iff.mp hi).1
      have hm : (z, hh[i]) ∈ ((m_hh q).zip (m_xk q)).zip hh := List.mem_of_getElem? (i := i) (by
        rw [List.getElem?_zip_eq_some]
        exact ⟨hi, List.getElem?_eq_getElem hi2⟩)
      have := List.all_eq_true.mp g6 _ hm
      simp only [Bool.and_eq_true, decide_eq_true_eq, List.all_eq_true, Bool.or_eq_true, Bool.not_eq_true'] at this
      obtain ⟨⟨⟨⟨k1, k2⟩, k3⟩, k4⟩, k5⟩ := this
      refine ⟨k1, k2, w_g_in k3, w_n_in k4, fun e he ⟨n, en⟩ => ?_⟩
      rcases k5 e he with k5 | k5
      · rw [en] at k5; cases k5
      · exact k5
  · rcases h3 with h3 | ⟨⟨⟨⟨⟨⟨g1, g2⟩, g3⟩, g31⟩, g4⟩, g5⟩, g6⟩
    · exact absurd h3 hne
    · intro e he ⟨n, en⟩
      have := List.any_eq_false.mp g5 e he
      rcases en with en | en <;> rw [en] at this <;> exact absurd rfl this
end
section
/-! The methods of the program, as tables. -/
set_option maxRecDepth 100000 in
def md_0 : a_Md := (({ cls := "WeatherInsurance$TextReader", name := "<init>", desc := "()V" } : Jvm.MethodName), prog_9_method_1_code, 1, none, [], (1, 1, 30, 1, 0), (false, true, []), [(0, .aload_n 0, 1, 0, 0), (1, .invokespecial 3, 3, 1000, 0), (4, .aload_n 0, 1, 0, 0), (5, .iconst 0, 1, 0, 0), (6, .newarray .byte, 2, 0, 0), (8, .putfield 9, 3, 7, 0), (11, .aload_n 0, 1, 0, 0), (12, .iconst 0, 1, 0, 0), (13, .putfield 15, 3, 7, 6), (16, .aload_n 0, 1, 0, 0), (17, .iconst (-1), 1, 0, 0), (18, .putfield 19, 3, 7, 7), (21, .return_, 1, 0, 0)])
set_option maxRecDepth 100000 in
def md_1 : a_Md := (({ cls := "WeatherInsurance$Setup", name := "<init>", desc := "()V" } : Jvm.MethodName), prog_8_method_1_code, 1, none, [], (1, 1, 30, 4, 67), (false, true, []), [(0, .aload_n 0, 1, 0, 0), (1, .invokespecial 3, 3, 1000, 0), (4, .aload_n 0, 1, 0, 0), (5, .bipush 8, 2, 0, 0), (7, .newarray .int, 2, 0, 0), (9, .putfield 9, 3, 6, 1), (12, .aload_n 0, 1, 0, 0), (13, .bipush 48, 2, 0, 0), (15, .newarray .byte, 2, 0, 0), (17, .putfield 15, 3, 6, 2), (20, .aload_n 0, 1, 0, 0), (21, .bipush 8, 2, 0, 0), (23, .newarray .int, 2, 0, 0), (25, .putfield 19, 3, 6, 3), (28, .aload_n 0, 1, 0, 0), (29, .iconst 3, 1, 0, 0), (30, .newarray .int, 2, 0, 0), (32, .putfield 22, 3, 6, 5), (35, .return_, 1, 0, 0)])
set_option maxRecDepth 100000 in
def md_2 : a_Md := (({ cls := "WeatherInsurance$Script", name := "<init>", desc := "()V" } : Jvm.MethodName), prog_7_method_1_code, 1, none, [], (1, 1, 30, 31, 240), (false, true, []), [(0, .aload_n 0, 1, 0, 0), (1, .invokespecial 3, 3, 1000, 0), (4, .aload_n 0, 1, 0, 0), (5, .bipush 30, 2, 0, 0), (7, .bipush 7, 2, 0, 0), (9, .multianewarray 11 2, 4, 0, 0), (13, .putfield 13, 3, 5, 0), (16, .return_, 1, 0, 0)])
set_option maxRecDepth 100000 in
def md_3 : a_Md := (({ cls := "WeatherInsurance$Audit", name := "<init>", desc := "()V" } : Jvm.MethodName), prog_2_method_1_code, 1, none, [], (1, 1, 30, 1, 24), (false, true, []), [(0, .aload_n 0, 1, 0, 0), (1, .invokespecial 3, 3, 1000, 0), (4, .aload_n 0, 1, 0, 0), (5, .bipush 24, 2, 0, 0), (7, .newarray .int, 2, 0, 0), (9, .putfield 9, 3, 0, 0), (12, .return_, 1, 0, 0)])
set_option maxRecDepth 100000 in
def md_4 : a_Md := (({ cls := "WeatherInsurance$Ledger", name := "<init>", desc := "()V" } : Jvm.MethodName), prog_5_method_1_code, 1, none, [], (1, 1, 30, 6, 108), (false, true, []), [(0, .aload_n 0, 1, 0, 0), (1, .invokespecial 3, 3, 1000, 0), (4, .aload_n 0, 1, 0, 0), (5, .bipush 8, 2, 0, 0), (7, .newarray .int, 2, 0, 0), (9, .putfield 9, 3, 3, 2), (12, .aload_n 0, 1, 0, 0), (13, .bipush 20, 2, 0, 0), (15, .newarray .boolean, 2, 0, 0), (17, .putfield 15, 3, 3, 4), (20, .aload_n 0, 1, 0, 0), (21, .bipush 20, 2, 0, 0), (23, .newarray .int, 2, 0, 0), (25, .putfield 19, 3, 3, 6), (28, .aload_n 0, 1, 0, 0), (29, .bipush 20, 2, 0, 0), (31, .newarray .int, 2, 0, 0), (33, .putfield 22, 3, 3, 7), (36, .aload_n 0, 1, 0, 0), (37, .bipush 20, 2, 0, 0), (39, .newarray .int, 2, 0, 0), (41, .putfield 25, 3, 3, 8), (44, .aload_n 0, 1, 0, 0), (45, .bipush 20, 2, 0, 0), (47, .newarray .int, 2, 0, 0), (49, .putfield 28, 3, 3, 9), (52, .return_, 1, 0, 0)])
set_option maxRecDepth 100000 in
def md_5 : a_Md := (({ cls := "WeatherInsurance$History", name := "<init>", desc := "()V" } : Jvm.MethodName), prog_4_method_1_code, 2, none, [], (1, 2, 50, 57, 992), (false, true, []), [(0, .aload_n 0, 1, 0, 0), (1, .invokespecial 3, 3, 1000, 0), (4, .aload_n 0, 1, 0, 0), (5, .bipush 8, 2, 0, 0), (7, .anewarray 9, 3, 3, 0), (10, .putfield 11, 3, 2, 0), (13, .iconst 0, 1, 0, 0), (14, .istore_n 1, 1, 0, 0), (15, .iload_n 1, 1, 0, 0), (16, .bipush 8, 2, 0, 0), (18, .if_icmp .ge 22, 3, 0, 0), (21, .aload_n 0, 1, 0, 0), (22, .getfield 11, 3, 2, 0), (25, .iload_n 1, 1, 0, 0), (26, .new 9, 3, 3, 0), (29, .dup, 1, 0, 0), (30, .invokespecial 17, 3, 4, 1), (33, .aastore, 1, 3, 0), (34, .iinc 1 1, 3, 0, 0), (37, .goto (-22), 3, 0, 0), (40, .return_, 1, 0, 0)])
set_option maxRecDepth 100000 in
def md_6 : a_Md := (({ cls := "WeatherInsurance$Book", name := "<init>", desc := "()V" } : Jvm.MethodName), prog_3_method_1_code, 1, none, [], (1, 1, 30, 12, 2200), (false, true, []), [(0, .aload_n 0, 1, 0, 0), (1, .invokespecial 3, 3, 1000, 0), (4, .aload_n 0, 1, 0, 0), (5, .sipush 1000, 3, 0, 0), (8, .newarray .int, 2, 0, 0), (10, .putfield 9, 3, 1, 0), (13, .aload_n 0, 1, 0, 0), (14, .sipush 1000, 3, 0, 0), (17, .newarray .int, 2, 0, 0), (19, .putfield 15, 3, 1, 1), (22, .aload_n 0, 1, 0, 0), (23, .bipush 20, 2, 0, 0), (25, .newarray .boolean, 2, 0, 0), (27, .putfield 18, 3, 1, 2), (30, .aload_n 0, 1, 0, 0), (31, .bipush 20, 2, 0, 0), (33, .newarray .int, 2, 0, 0), (35, .putfield 22, 3, 1, 3), (38, .aload_n 0, 1, 0, 0), (39, .bipush 20, 2, 0, 0), (41, .newarray .int, 2, 0, 0), (43, .putfield 25, 3, 1, 4), (46, .aload_n 0, 1, 0, 0), (47, .bipush 20, 2, 0, 0), (49, .newarray .int, 2, 0, 0), (51, .putfield 28, 3, 1, 5), (54, .aload_n 0, 1, 0, 0), (55, .bipush 20, 2, 0, 0), (57, .newarray .int, 2, 0, 0), (59, .putfield 31, 3, 1, 6), (62, .aload_n 0, 1, 0, 0), (63, .bipush 20, 2, 0, 0), (65, .newarray .int, 2, 0, 0), (67, .putfield 34, 3, 1, 7), (70, .aload_n 0, 1, 0, 0), (71, .bipush 20, 2, 0, 0), (73, .newarray .int, 2, 0, 0), (75, .putfield 37, 3, 1, 8), (78, .aload_n 0, 1, 0, 0), (79, .bipush 20, 2, 0, 0), (81, .newarray .int, 2, 0, 0), (83, .putfield 40, 3, 1, 9), (86, .aload_n 0, 1, 0, 0), (87, .bipush 20, 2, 0, 0), (89, .newarray .int, 2, 0, 0), (91, .putfield 43, 3, 1, 10), (94, .aload_n 0, 1, 0, 0), (95, .bipush 20, 2, 0, 0), (97, .newarray .int, 2, 0, 0), (99, .putfield 46, 3, 1, 11), (102, .return_, 1, 0, 0)])
set_option maxRecDepth 100000 in
def md_7 : a_Md := (({ cls := "WeatherInsurance$Office", name := "<init>", desc := "()V" } : Jvm.MethodName), prog_6_method_1_code, 1, none, [], (1, 2, 50, 32, 2532), (false, true, []), [(0, .aload_n 0, 1, 0, 0), (1, .invokespecial 3, 3, 1000, 0), (4, .aload_n 0, 1, 0, 0), (5, .new 9, 3, 6, 0), (8, .dup, 1, 0, 0), (9, .invokespecial 11, 3, 1, 1), (12, .putfield 12, 3, 4, 0), (15, .aload_n 0, 1, 0, 0), (16, .new 18, 3, 1, 0), (19, .dup, 1, 0, 0), (20, .invokespecial 20, 3, 6, 1), (23, .putfield 21, 3, 4, 1), (26, .aload_n 0, 1, 0, 0), (27, .new 25, 3, 3, 0), (30, .dup, 1, 0, 0), (31, .invokespecial 27, 3, 4, 1), (34, .putfield 28, 3, 4, 2), (37, .aload_n 0, 1, 0, 0), (38, .new 25, 3, 3, 0), (41, .dup, 1, 0, 0), (42, .invokespecial 27, 3, 4, 1), (45, .putfield 32, 3, 4, 3), (48, .return_, 1, 0, 0)])
set_option maxRecDepth 100000 in
def md_8 : a_Md := (({ cls := "WeatherInsurance$TextReader", name := "open", desc := "([BI)V" } : Jvm.MethodName), prog_9_method_2_code, 3, none, [], (3, 1, 30, 0, 0), (false, false, []), [(0, .aload_n 0, 1, 0, 0), (1, .aload_n 1, 1, 0, 0), (2, .putfield 9, 3, 7, 0), (5, .aload_n 0, 1, 0, 0), (6, .iload_n 2, 1, 0, 0), (7, .aload_n 1, 1, 0, 0), (8, .arraylength, 1, 0, 0), (9, .invokestatic 22, 3, 1001, 0), (12, .putfield 28, 3, 7, 1), (15, .aload_n 0, 1, 0, 0), (16, .iconst 0, 1, 0, 0), (17, .putfield 31, 3, 7, 4), (20, .aload_n 0, 1, 0, 0), (21, .iconst 0, 1, 0, 0), (22, .putfield 15, 3, 7, 6), (25, .aload_n 0, 1, 0, 0), (26, .iconst (-1), 1, 0, 0), (27, .putfield 19, 3, 7, 7), (30, .return_, 1, 0, 0)])
set_option maxRecDepth 100000 in
def md_9 : a_Md := (({ cls := "WeatherInsurance", name := "openInput", desc := "()V" } : Jvm.MethodName), prog_1_method_7_code, 1, none, [], (1, 2, 52, 0, 0), (false, false, []), [(0, .aload_n 0, 1, 0, 0), (1, .getfield 19, 3, 8, 4), (4, .aload_n 0, 1, 0, 0), (5, .getfield 9, 3, 8, 0), (8, .aload_n 0, 1, 0, 0), (9, .getfield 96, 3, 8, 1), (12, .invokevirtual 142, 3, 8, 7), (15, .aload_n 0, 1, 0, 0), (16, .iconst 0, 1, 0, 0), (17, .putfield 96, 3, 8, 1), (20, .return_, 1, 0, 0)])
set_option maxRecDepth 100000 in
def md_10 : a_Md := (({ cls := "WeatherInsurance$TextReader", name := "endOfRun", desc := "(II)I" } : Jvm.MethodName), prog_9_method_4_code, 4, (some .int), [], (3, 0, 0, 0, 0), (false, false, []), [(0, .aload_n 0, 1, 0, 0), (1, .getfield 34, 3, 7, 3), (4, .istore_n 3, 1, 0, 0), (5, .iload_n 3, 1, 0, 0), (6, .aload_n 0, 1, 0, 0), (7, .getfield 28, 3, 7, 1), (10, .if_icmp .ge 29, 3, 0, 0), (13, .aload_n 0, 1, 0, 0), (14, .getfield 9, 3, 7, 0), (17, .iload_n 3, 1, 0, 0), (18, .baload, 1, 0, 0), (19, .iload_n 1, 1, 0, 0), (20, .if_icmp .lt 19, 3, 0, 0), (23, .aload_n 0, 1, 0, 0), (24, .getfield 9, 3, 7, 0), (27, .iload_n 3, 1, 0, 0), (28, .baload, 1, 0, 0), (29, .iload_n 2, 1, 0, 0), (30, .if_icmp .gt 9, 3, 0, 0), (33, .iinc 3 1, 3, 0, 0), (36, .goto (-31), 3, 0, 0), (39, .iload_n 3, 1, 0, 0), (40, .ireturn, 1, 0, 0)])
set_option maxRecDepth 100000 in
def md_11 : a_Md := (({ cls := "WeatherInsurance$TextReader", name := "tokenLength", desc := "()I" } : Jvm.MethodName), prog_9_method_7_code, 1, (some .int), [], (1, 0, 0, 0, 0), (false, false, []), [(0, .aload_n 0, 1, 0, 0), (1, .getfield 31, 3, 7, 4), (4, .aload_n 0, 1, 0, 0), (5, .getfield 34, 3, 7, 3), (8, .isub, 1, 0, 0), (9, .ireturn, 1, 0, 0)])
set_option maxRecDepth 100000 in
def md_12 : a_Md := (({ cls := "WeatherInsurance$TextReader", name := "next", desc := "()V" } : Jvm.MethodName), prog_9_method_3_code, 1, none, [], (1, 1, 23, 0, 0), (false, false, []), [(0, .aload_n 0, 1, 0, 0), (1, .aload_n 0, 1, 0, 0), (2, .getfield 31, 3, 7, 4), (5, .putfield 34, 3, 7, 3), (8, .aload_n 0, 1, 0, 0), (9, .getfield 34, 3, 7, 3), (12, .aload_n 0, 1, 0, 0), (13, .getfield 28, 3, 7, 1), (16, .if_icmp .ge 44, 3, 0, 0), (19, .aload_n 0, 1, 0, 0), (20, .getfield 9, 3, 7, 0), (23, .aload_n 0, 1, 0, 0), (24, .getfield 34, 3, 7, 3), (27, .baload, 1, 0, 0), (28, .bipush 32, 2, 0, 0), (30, .if_icmp .eq 17, 3, 0, 0), (33, .aload_n 0, 1, 0, 0), (34, .getfield 9, 3, 7, 0), (37, .aload_n 0, 1, 0, 0), (38, .getfield 34, 3, 7, 3), (41, .baload, 1, 0, 0), (42, .bipush 10, 2, 0, 0), (44, .if_icmp .ne 16, 3, 0, 0), (47, .aload_n 0, 1, 0, 0), (48, .dup, 1, 0, 0), (49, .getfield 34, 3, 7, 3), (52, .iconst 1, 1, 0, 0), (53, .iadd, 1, 0, 0), (54, .putfield 34, 3, 7, 3), (57, .goto (-49), 3, 0, 0), (60, .aload_n 0, 1, 0, 0), (61, .aload_n 0, 1, 0, 0), (62, .getfield 34, 3, 7, 3), (65, .putfield 31, 3, 7, 4), (68, .aload_n 0, 1, 0, 0), (69, .getfield 34, 3, 7, 3), (72, .aload_n 0, 1, 0, 0), (73, .getfield 28, 3, 7, 1), (76, .if_icmp .lt 11, 3, 0, 0), (79, .aload_n 0, 1, 0, 0), (80, .iconst 0, 1, 0, 0), (81, .putfield 37, 3, 7, 2), (84, .goto 157, 3, 0, 0), (87, .aload_n 0, 1, 0, 0), (88, .getfield 9, 3, 7, 0), (91, .aload_n 0, 1, 0, 0), (92, .getfield 34, 3, 7, 3), (95, .baload, 1, 0, 0), (96, .bipush 97, 2, 0, 0), (98, .if_icmp .lt 50, 3, 0, 0), (101, .aload_n 0, 1, 0, 0), (102, .getfield 9, 3, 7, 0), (105, .aload_n 0, 1, 0, 0), (106, .getfield 34, 3, 7, 3), (109, .baload, 1, 0, 0), (110, .bipush 122, 2, 0, 0), (112, .if_icmp .gt 36, 3, 0, 0), (115, .aload_n 0, 1, 0, 0), (116, .aload_n 0, 1, 0, 0), (117, .bipush 97, 2, 0, 0), (119, .bipush 122, 2, 0, 0), (121, .invokevirtual 40, 3, 10, 7), (124, .putfield 31, 3, 7, 4), (127, .aload_n 0, 1, 0, 0), (128, .aload_n 0, 1, 0, 0), (129, .invokevirtual 43, 3, 11, 7), (132, .bipush 8, 2, 0, 0), (134, .if_icmp .gt 7, 3, 0, 0), (137, .iconst 1, 1, 0, 0), (138, .goto 4, 3, 0, 0), (141, .iconst 4, 1, 0, 0), (142, .putfield 37, 3, 7, 2), (145, .goto 96, 3, 0, 0), (148, .aload_n 0, 1, 0, 0), (149, .getfield 9, 3, 7, 0), (152, .aload_n 0, 1, 0, 0), (153, .getfield 34, 3, 7, 3), (156, .baload, 1, 0, 0), (157, .bipush 48, 2, 0, 0), (159, .if_icmp .lt 49, 3, 0, 0), (162, .aload_n 0, 1, 0, 0), (163, .getfield 9, 3, 7, 0), (166, .aload_n 0, 1, 0, 0), (167, .getfield 34, 3, 7, 3), (170, .baload, 1, 0, 0), (171, .bipush 57, 2, 0, 0), (173, .if_icmp .gt 35, 3, 0, 0), (176, .aload_n 0, 1, 0, 0), (177, .aload_n 0, 1, 0, 0), (178, .bipush 48, 2, 0, 0), (180, .bipush 57, 2, 0, 0), (182, .invokevirtual 40, 3, 10, 7), (185, .putfield 31, 3, 7, 4), (188, .aload_n 0, 1, 0, 0), (189, .aload_n 0, 1, 0, 0), (190, .invokevirtual 43, 3, 11, 7), (193, .iconst 4, 1, 0, 0), (194, .if_icmp .gt 7, 3, 0, 0), (197, .iconst 2, 1, 0, 0), (198, .goto 4, 3, 0, 0), (201, .iconst 4, 1, 0, 0), (202, .putfield 37, 3, 7, 2), (205, .goto 36, 3, 0, 0), (208, .aload_n 0, 1, 0, 0), (209, .aload_n 0, 1, 0, 0), (210, .getfield 34, 3, 7, 3), (213, .iconst 1, 1, 0, 0), (214, .iadd, 1, 0, 0), (215, .putfield 31, 3, 7, 4), (218, .aload_n 0, 1, 0, 0), (219, .aload_n 0, 1, 0, 0), (220, .getfield 9, 3, 7, 0), (223, .aload_n 0, 1, 0, 0), (224, .getfield 34, 3, 7, 3), (227, .baload, 1, 0, 0), (228, .bipush 59, 2, 0, 0), (230, .if_icmp .ne 7, 3, 0, 0), (233, .iconst 3, 1, 0, 0), (234, .goto 4, 3, 0, 0), (237, .iconst 4, 1, 0, 0), (238, .putfield 37, 3, 7, 2), (241, .return_, 1, 0, 0)])
set_option maxRecDepth 100000 in
def md_13 : a_Md := (({ cls := "WeatherInsurance$TextReader", name := "isAtEnd", desc := "()Z" } : Jvm.MethodName), prog_9_method_6_code, 1, (some .boolean), [], (1, 0, 0, 0, 0), (false, false, []), [(0, .aload_n 0, 1, 0, 0), (1, .getfield 37, 3, 7, 2), (4, .ifCond .ne 7, 3, 0, 0), (7, .iconst 1, 1, 0, 0), (8, .goto 4, 3, 0, 0), (11, .iconst 0, 1, 0, 0), (12, .ireturn, 1, 0, 0)])
set_option maxRecDepth 100000 in
def md_14 : a_Md := (({ cls := "WeatherInsurance$TextReader", name := "isWord", desc := "(Ljava/lang/String;)Z" } : Jvm.MethodName), prog_9_method_9_code, 3, (some .boolean), [], (2, 6, 140, 0, 0), (false, false, []), [(0, .aload_n 0, 1, 0, 0), (1, .getfield 37, 3, 7, 2), (4, .iconst 1, 1, 0, 0), (5, .if_icmp .ne 14, 3, 0, 0), (8, .aload_n 0, 1, 0, 0), (9, .invokevirtual 43, 3, 11, 7), (12, .aload_n 1, 1, 0, 0), (13, .invokevirtual 47, 3, 1004, 0), (16, .if_icmp .eq 5, 3, 0, 0), (19, .iconst 0, 1, 0, 0), (20, .ireturn, 1, 0, 0), (21, .iconst 0, 1, 0, 0), (22, .istore_n 2, 1, 0, 0), (23, .iload_n 2, 1, 0, 0), (24, .aload_n 1, 1, 0, 0), (25, .invokevirtual 47, 3, 1004, 0), (28, .if_icmp .ge 30, 3, 0, 0), (31, .aload_n 0, 1, 0, 0), (32, .getfield 9, 3, 7, 0), (35, .aload_n 0, 1, 0, 0), (36, .getfield 34, 3, 7, 3), (39, .iload_n 2, 1, 0, 0), (40, .iadd, 1, 0, 0), (41, .baload, 1, 0, 0), (42, .aload_n 1, 1, 0, 0), (43, .iload_n 2, 1, 0, 0), (44, .invokevirtual 51, 3, 1005, 0), (47, .if_icmp .eq 5, 3, 0, 0), (50, .iconst 0, 1, 0, 0), (51, .ireturn, 1, 0, 0), (52, .iinc 2 1, 3, 0, 0), (55, .goto (-32), 3, 0, 0), (58, .iconst 1, 1, 0, 0), (59, .ireturn, 1, 0, 0)])
set_option maxRecDepth 100000 in
def md_15 : a_Md := (({ cls := "WeatherInsurance$TextReader", name := "fail", desc := "(I)Z" } : Jvm.MethodName), prog_9_method_5_code, 2, (some .boolean), [], (2, 0, 0, 0, 0), (false, false, []), [(0, .aload_n 0, 1, 0, 0), (1, .iload_n 1, 1, 0, 0), (2, .putfield 15, 3, 7, 6), (5, .aload_n 0, 1, 0, 0), (6, .aload_n 0, 1, 0, 0), (7, .getfield 34, 3, 7, 3), (10, .putfield 19, 3, 7, 7), (13, .iconst 0, 1, 0, 0), (14, .ireturn, 1, 0, 0)])
set_option maxRecDepth 100000 in
def md_16 : a_Md := (({ cls := "WeatherInsurance$TextReader", name := "readName", desc := "()Z" } : Jvm.MethodName), prog_9_method_10_code, 1, (some .boolean), [], (1, 2, 43, 0, 0), (false, false, []), [(0, .aload_n 0, 1, 0, 0), (1, .invokevirtual 55, 3, 12, 7), (4, .aload_n 0, 1, 0, 0), (5, .getfield 37, 3, 7, 2), (8, .iconst 1, 1, 0, 0), (9, .if_icmp .ne 12, 3, 0, 0), (12, .aload_n 0, 1, 0, 0), (13, .invokevirtual 43, 3, 11, 7), (16, .bipush 6, 2, 0, 0), (18, .if_icmp .le 11, 3, 0, 0), (21, .aload_n 0, 1, 0, 0), (22, .iconst 1, 1, 0, 0), (23, .invokevirtual 58, 3, 15, 7), (26, .ifCond .eq 7, 3, 0, 0), (29, .iconst 1, 1, 0, 0), (30, .goto 4, 3, 0, 0), (33, .iconst 0, 1, 0, 0), (34, .ireturn, 1, 0, 0)])
set_option maxRecDepth 100000 in
def md_17 : a_Md := (({ cls := "WeatherInsurance$Setup", name := "letterOf", desc := "(II)I" } : Jvm.MethodName), prog_8_method_3_code, 3, (some .int), [], (3, 0, 0, 0, 0), (false, false, []), [(0, .aload_n 0, 1, 0, 0), (1, .getfield 15, 3, 6, 2), (4, .iload_n 1, 1, 0, 0), (5, .bipush 6, 2, 0, 0), (7, .imul, 1, 0, 0), (8, .iload_n 2, 1, 0, 0), (9, .iadd, 1, 0, 0), (10, .baload, 1, 0, 0), (11, .ireturn, 1, 0, 0)])
set_option maxRecDepth 100000 in
def md_18 : a_Md := (({ cls := "WeatherInsurance$TextReader", name := "tokenByte", desc := "(I)B" } : Jvm.MethodName), prog_9_method_8_code, 2, (some .byte), [], (2, 0, 0, 0, 0), (false, false, []), [(0, .iload_n 1, 1, 0, 0), (1, .ifCond .lt 30, 3, 0, 0), (4, .iload_n 1, 1, 0, 0), (5, .aload_n 0, 1, 0, 0), (6, .getfield 31, 3, 7, 4), (9, .aload_n 0, 1, 0, 0), (10, .getfield 34, 3, 7, 3), (13, .isub, 1, 0, 0), (14, .if_icmp .ge 17, 3, 0, 0), (17, .aload_n 0, 1, 0, 0), (18, .getfield 9, 3, 7, 0), (21, .aload_n 0, 1, 0, 0), (22, .getfield 34, 3, 7, 3), (25, .iload_n 1, 1, 0, 0), (26, .iadd, 1, 0, 0), (27, .baload, 1, 0, 0), (28, .goto 4, 3, 0, 0), (31, .iconst 0, 1, 0, 0), (32, .ireturn, 1, 0, 0)])
set_option maxRecDepth 100000 in
def md_19 : a_Md := (({ cls := "WeatherInsurance$Setup", name := "isNamedIn", desc := "(ILWeatherInsurance$TextReader;)Z" } : Jvm.MethodName), prog_8_method_6_code, 4, (some .boolean), [], (3, 1, 22, 0, 0), (false, false, []), [(0, .aload_n 0, 1, 0, 0), (1, .getfield 9, 3, 6, 1), (4, .iload_n 1, 1, 0, 0), (5, .iaload, 1, 0, 0), (6, .aload_n 2, 1, 0, 0), (7, .invokevirtual 45, 3, 11, 7), (10, .if_icmp .eq 5, 3, 0, 0), (13, .iconst 0, 1, 0, 0), (14, .ireturn, 1, 0, 0), (15, .iconst 0, 1, 0, 0), (16, .istore_n 3, 1, 0, 0), (17, .iload_n 3, 1, 0, 0), (18, .aload_n 0, 1, 0, 0), (19, .getfield 9, 3, 6, 1), (22, .iload_n 1, 1, 0, 0), (23, .iaload, 1, 0, 0), (24, .if_icmp .ge 25, 3, 0, 0), (27, .aload_n 0, 1, 0, 0), (28, .iload_n 1, 1, 0, 0), (29, .iload_n 3, 1, 0, 0), (30, .invokevirtual 51, 3, 17, 6), (33, .aload_n 2, 1, 0, 0), (34, .iload_n 3, 1, 0, 0), (35, .invokevirtual 55, 3, 18, 7), (38, .if_icmp .eq 5, 3, 0, 0), (41, .iconst 0, 1, 0, 0), (42, .ireturn, 1, 0, 0), (43, .iinc 3 1, 3, 0, 0), (46, .goto (-29), 3, 0, 0), (49, .iconst 1, 1, 0, 0), (50, .ireturn, 1, 0, 0)])
set_option maxRecDepth 100000 in
def md_20 : a_Md := (({ cls := "WeatherInsurance$Setup", name := "holderNamedIn", desc := "(LWeatherInsurance$TextReader;)I" } : Jvm.MethodName), prog_8_method_5_code, 3, (some .int), [], (2, 2, 45, 0, 0), (false, false, []), [(0, .iconst 0, 1, 0, 0), (1, .istore_n 2, 1, 0, 0), (2, .iload_n 2, 1, 0, 0), (3, .aload_n 0, 1, 0, 0), (4, .getfield 25, 3, 6, 0), (7, .if_icmp .ge 20, 3, 0, 0), (10, .aload_n 0, 1, 0, 0), (11, .iload_n 2, 1, 0, 0), (12, .aload_n 1, 1, 0, 0), (13, .invokevirtual 41, 3, 19, 6), (16, .ifCond .eq 5, 3, 0, 0), (19, .iload_n 2, 1, 0, 0), (20, .ireturn, 1, 0, 0), (21, .iinc 2 1, 3, 0, 0), (24, .goto (-22), 3, 0, 0), (27, .iconst (-1), 1, 0, 0), (28, .ireturn, 1, 0, 0)])
set_option maxRecDepth 100000 in
def md_21 : a_Md := (({ cls := "WeatherInsurance$Setup", name := "takeName", desc := "(LWeatherInsurance$TextReader;)V" } : Jvm.MethodName), prog_8_method_10_code, 3, none, [], (2, 1, 21, 0, 0), (false, false, []), [(0, .aload_n 0, 1, 0, 0), (1, .getfield 9, 3, 6, 1), (4, .aload_n 0, 1, 0, 0), (5, .getfield 25, 3, 6, 0), (8, .aload_n 1, 1, 0, 0), (9, .invokevirtual 45, 3, 11, 7), (12, .iastore, 1, 0, 0), (13, .iconst 0, 1, 0, 0), (14, .istore_n 2, 1, 0, 0), (15, .iload_n 2, 1, 0, 0), (16, .aload_n 0, 1, 0, 0), (17, .getfield 9, 3, 6, 1), (20, .aload_n 0, 1, 0, 0), (21, .getfield 25, 3, 6, 0), (24, .iaload, 1, 0, 0), (25, .if_icmp .ge 28, 3, 0, 0), (28, .aload_n 0, 1, 0, 0), (29, .getfield 15, 3, 6, 2), (32, .aload_n 0, 1, 0, 0), (33, .getfield 25, 3, 6, 0), (36, .bipush 6, 2, 0, 0), (38, .imul, 1, 0, 0), (39, .iload_n 2, 1, 0, 0), (40, .iadd, 1, 0, 0), (41, .aload_n 1, 1, 0, 0), (42, .iload_n 2, 1, 0, 0), (43, .invokevirtual 55, 3, 18, 7), (46, .bastore, 1, 0, 0), (47, .iinc 2 1, 3, 0, 0), (50, .goto (-35), 3, 0, 0), (53, .return_, 1, 0, 0)])
set_option maxRecDepth 100000 in
def md_22 : a_Md := (({ cls := "WeatherInsurance$TextReader", name := "readNumber", desc := "(II)Z" } : Jvm.MethodName), prog_9_method_12_code, 4, (some .boolean), [], (3, 2, 43, 0, 0), (false, false, []), [(0, .aload_n 0, 1, 0, 0), (1, .invokevirtual 55, 3, 12, 7), (4, .aload_n 0, 1, 0, 0), (5, .getfield 37, 3, 7, 2), (8, .iconst 2, 1, 0, 0), (9, .if_icmp .eq 9, 3, 0, 0), (12, .aload_n 0, 1, 0, 0), (13, .iconst 1, 1, 0, 0), (14, .invokevirtual 58, 3, 15, 7), (17, .ireturn, 1, 0, 0), (18, .aload_n 0, 1, 0, 0), (19, .iconst 0, 1, 0, 0), (20, .putfield 62, 3, 7, 5), (23, .aload_n 0, 1, 0, 0), (24, .getfield 34, 3, 7, 3), (27, .istore_n 3, 1, 0, 0), (28, .iload_n 3, 1, 0, 0), (29, .aload_n 0, 1, 0, 0), (30, .getfield 31, 3, 7, 4), (33, .if_icmp .ge 30, 3, 0, 0), (36, .aload_n 0, 1, 0, 0), (37, .bipush 10, 2, 0, 0), (39, .aload_n 0, 1, 0, 0), (40, .getfield 62, 3, 7, 5), (43, .imul, 1, 0, 0), (44, .aload_n 0, 1, 0, 0), (45, .getfield 9, 3, 7, 0), (48, .iload_n 3, 1, 0, 0), (49, .baload, 1, 0, 0), (50, .iadd, 1, 0, 0), (51, .bipush 48, 2, 0, 0), (53, .isub, 1, 0, 0), (54, .putfield 62, 3, 7, 5), (57, .iinc 3 1, 3, 0, 0), (60, .goto (-32), 3, 0, 0), (63, .aload_n 0, 1, 0, 0), (64, .getfield 62, 3, 7, 5), (67, .iload_n 1, 1, 0, 0), (68, .if_icmp .lt 11, 3, 0, 0), (71, .aload_n 0, 1, 0, 0), (72, .getfield 62, 3, 7, 5), (75, .iload_n 2, 1, 0, 0), (76, .if_icmp .le 11, 3, 0, 0), (79, .aload_n 0, 1, 0, 0), (80, .iconst 2, 1, 0, 0), (81, .invokevirtual 58, 3, 15, 7), (84, .ifCond .eq 7, 3, 0, 0), (87, .iconst 1, 1, 0, 0), (88, .goto 4, 3, 0, 0), (91, .iconst 0, 1, 0, 0), (92, .ireturn, 1, 0, 0)])
set_option maxRecDepth 100000 in
def md_23 : a_Md := (({ cls := "WeatherInsurance$TextReader", name := "readSemicolon", desc := "()Z" } : Jvm.MethodName), prog_9_method_11_code, 1, (some .boolean), [], (1, 2, 43, 0, 0), (false, false, []), [(0, .aload_n 0, 1, 0, 0), (1, .invokevirtual 55, 3, 12, 7), (4, .aload_n 0, 1, 0, 0), (5, .getfield 37, 3, 7, 2), (8, .iconst 3, 1, 0, 0), (9, .if_icmp .eq 11, 3, 0, 0), (12, .aload_n 0, 1, 0, 0), (13, .iconst 1, 1, 0, 0), (14, .invokevirtual 58, 3, 15, 7), (17, .ifCond .eq 7, 3, 0, 0), (20, .iconst 1, 1, 0, 0), (21, .goto 4, 3, 0, 0), (24, .iconst 0, 1, 0, 0), (25, .ireturn, 1, 0, 0)])
set_option maxRecDepth 100000 in
def md_24 : a_Md := (({ cls := "WeatherInsurance$Setup", name := "readHolder", desc := "(LWeatherInsurance$TextReader;)Z" } : Jvm.MethodName), prog_8_method_9_code, 2, (some .boolean), [], (2, 3, 67, 0, 0), (false, false, []), [(0, .aload_n 0, 1, 0, 0), (1, .getfield 25, 3, 6, 0), (4, .bipush 8, 2, 0, 0), (6, .if_icmp .ne 9, 3, 0, 0), (9, .aload_n 1, 1, 0, 0), (10, .iconst 4, 1, 0, 0), (11, .invokevirtual 70, 3, 15, 7), (14, .ireturn, 1, 0, 0), (15, .aload_n 1, 1, 0, 0), (16, .invokevirtual 92, 3, 16, 7), (19, .ifCond .ne 5, 3, 0, 0), (22, .iconst 0, 1, 0, 0), (23, .ireturn, 1, 0, 0), (24, .aload_n 0, 1, 0, 0), (25, .aload_n 1, 1, 0, 0), (26, .invokevirtual 95, 3, 20, 6), (29, .iconst (-1), 1, 0, 0), (30, .if_icmp .eq 9, 3, 0, 0), (33, .aload_n 1, 1, 0, 0), (34, .iconst 3, 1, 0, 0), (35, .invokevirtual 70, 3, 15, 7), (38, .ireturn, 1, 0, 0), (39, .aload_n 0, 1, 0, 0), (40, .aload_n 1, 1, 0, 0), (41, .invokevirtual 99, 3, 21, 6), (44, .aload_n 1, 1, 0, 0), (45, .iconst 0, 1, 0, 0), (46, .sipush 9999, 3, 0, 0), (49, .invokevirtual 103, 3, 22, 7), (52, .ifCond .ne 5, 3, 0, 0), (55, .iconst 0, 1, 0, 0), (56, .ireturn, 1, 0, 0), (57, .aload_n 0, 1, 0, 0), (58, .getfield 19, 3, 6, 3), (61, .aload_n 0, 1, 0, 0), (62, .getfield 25, 3, 6, 0), (65, .aload_n 1, 1, 0, 0), (66, .getfield 107, 3, 7, 5), (69, .iastore, 1, 0, 0), (70, .aload_n 0, 1, 0, 0), (71, .dup, 1, 0, 0), (72, .getfield 25, 3, 6, 0), (75, .iconst 1, 1, 0, 0), (76, .iadd, 1, 0, 0), (77, .putfield 25, 3, 6, 0), (80, .aload_n 1, 1, 0, 0), (81, .invokevirtual 110, 3, 23, 7), (84, .ireturn, 1, 0, 0)])
set_option maxRecDepth 100000 in
def md_25 : a_Md := (({ cls := "WeatherInsurance$Setup", name := "readAssessor", desc := "(LWeatherInsurance$TextReader;)Z" } : Jvm.MethodName), prog_8_method_11_code, 2, (some .boolean), [], (2, 3, 66, 0, 0), (false, false, []), [(0, .aload_n 0, 1, 0, 0), (1, .getfield 35, 3, 6, 4), (4, .iconst 3, 1, 0, 0), (5, .if_icmp .ne 9, 3, 0, 0), (8, .aload_n 1, 1, 0, 0), (9, .iconst 4, 1, 0, 0), (10, .invokevirtual 70, 3, 15, 7), (13, .ireturn, 1, 0, 0), (14, .aload_n 1, 1, 0, 0), (15, .iconst 0, 1, 0, 0), (16, .bipush 9, 2, 0, 0), (18, .invokevirtual 103, 3, 22, 7), (21, .ifCond .ne 5, 3, 0, 0), (24, .iconst 0, 1, 0, 0), (25, .ireturn, 1, 0, 0), (26, .aload_n 0, 1, 0, 0), (27, .getfield 22, 3, 6, 5), (30, .aload_n 0, 1, 0, 0), (31, .getfield 35, 3, 6, 4), (34, .aload_n 1, 1, 0, 0), (35, .getfield 107, 3, 7, 5), (38, .iastore, 1, 0, 0), (39, .aload_n 0, 1, 0, 0), (40, .dup, 1, 0, 0), (41, .getfield 35, 3, 6, 4), (44, .iconst 1, 1, 0, 0), (45, .iadd, 1, 0, 0), (46, .putfield 35, 3, 6, 4), (49, .aload_n 1, 1, 0, 0), (50, .invokevirtual 110, 3, 23, 7), (53, .ireturn, 1, 0, 0)])
set_option maxRecDepth 100000 in
def md_26 : a_Md := (({ cls := "WeatherInsurance$Setup", name := "readReserve", desc := "(LWeatherInsurance$TextReader;)Z" } : Jvm.MethodName), prog_8_method_12_code, 2, (some .boolean), [], (2, 3, 66, 0, 0), (false, false, []), [(0, .aload_n 1, 1, 0, 0), (1, .iconst 0, 1, 0, 0), (2, .sipush 9999, 3, 0, 0), (5, .invokevirtual 103, 3, 22, 7), (8, .ifCond .ne 5, 3, 0, 0), (11, .iconst 0, 1, 0, 0), (12, .ireturn, 1, 0, 0), (13, .aload_n 0, 1, 0, 0), (14, .aload_n 1, 1, 0, 0), (15, .getfield 107, 3, 7, 5), (18, .putfield 38, 3, 6, 6), (21, .aload_n 1, 1, 0, 0), (22, .invokevirtual 110, 3, 23, 7), (25, .ireturn, 1, 0, 0)])
set_option maxRecDepth 100000 in
def md_27 : a_Md := (({ cls := "WeatherInsurance$Setup", name := "readStatement", desc := "(LWeatherInsurance$TextReader;)Z" } : Jvm.MethodName), prog_8_method_8_code, 2, (some .boolean), [], (2, 7, 162, 0, 0), (false, false, []), [(0, .aload_n 1, 1, 0, 0), (1, .ldc 74, 2, 2, 0), (3, .invokevirtual 76, 3, 14, 7), (6, .ifCond .eq 9, 3, 0, 0), (9, .aload_n 0, 1, 0, 0), (10, .aload_n 1, 1, 0, 0), (11, .invokevirtual 80, 3, 24, 6), (14, .ireturn, 1, 0, 0), (15, .aload_n 1, 1, 0, 0), (16, .ldc 83, 2, 3, 0), (18, .invokevirtual 76, 3, 14, 7), (21, .ifCond .eq 9, 3, 0, 0), (24, .aload_n 0, 1, 0, 0), (25, .aload_n 1, 1, 0, 0), (26, .invokevirtual 85, 3, 25, 6), (29, .ireturn, 1, 0, 0), (30, .aload_n 1, 1, 0, 0), (31, .ldc 88, 2, 4, 0), (33, .invokevirtual 76, 3, 14, 7), (36, .ifCond .eq 9, 3, 0, 0), (39, .aload_n 0, 1, 0, 0), (40, .aload_n 1, 1, 0, 0), (41, .invokevirtual 89, 3, 26, 6), (44, .ireturn, 1, 0, 0), (45, .aload_n 1, 1, 0, 0), (46, .iconst 1, 1, 0, 0), (47, .invokevirtual 70, 3, 15, 7), (50, .ireturn, 1, 0, 0)])
set_option maxRecDepth 100000 in
def md_28 : a_Md := (({ cls := "WeatherInsurance$Setup", name := "readFrom", desc := "(LWeatherInsurance$TextReader;)Z" } : Jvm.MethodName), prog_8_method_7_code, 3, (some .boolean), [], (2, 8, 183, 0, 0), (false, false, []), [(0, .aload_n 0, 1, 0, 0), (1, .iconst 0, 1, 0, 0), (2, .putfield 25, 3, 6, 0), (5, .aload_n 0, 1, 0, 0), (6, .iconst 0, 1, 0, 0), (7, .putfield 35, 3, 6, 4), (10, .aload_n 0, 1, 0, 0), (11, .sipush 1000, 3, 0, 0), (14, .putfield 38, 3, 6, 6), (17, .aload_n 1, 1, 0, 0), (18, .invokevirtual 59, 3, 12, 7), (21, .iconst 0, 1, 0, 0), (22, .istore_n 2, 1, 0, 0), (23, .iload_n 2, 1, 0, 0), (24, .sipush 600, 3, 0, 0), (27, .if_icmp .ge 30, 3, 0, 0), (30, .aload_n 1, 1, 0, 0), (31, .invokevirtual 62, 3, 13, 7), (34, .ifCond .ne 23, 3, 0, 0), (37, .aload_n 0, 1, 0, 0), (38, .aload_n 1, 1, 0, 0), (39, .invokevirtual 66, 3, 27, 6), (42, .ifCond .ne 5, 3, 0, 0), (45, .iconst 0, 1, 0, 0), (46, .ireturn, 1, 0, 0), (47, .aload_n 1, 1, 0, 0), (48, .invokevirtual 59, 3, 12, 7), (51, .iinc 2 1, 3, 0, 0), (54, .goto (-31), 3, 0, 0), (57, .aload_n 0, 1, 0, 0), (58, .getfield 25, 3, 6, 0), (61, .ifCond .le 10, 3, 0, 0), (64, .aload_n 0, 1, 0, 0), (65, .getfield 35, 3, 6, 4), (68, .ifCond .gt 11, 3, 0, 0), (71, .aload_n 1, 1, 0, 0), (72, .iconst 5, 1, 0, 0), (73, .invokevirtual 70, 3, 15, 7), (76, .ifCond .eq 7, 3, 0, 0), (79, .iconst 1, 1, 0, 0), (80, .goto 4, 3, 0, 0), (83, .iconst 0, 1, 0, 0), (84, .ireturn, 1, 0, 0)])
set_option maxRecDepth 100000 in
def md_29 : a_Md := (({ cls := "WeatherInsurance$Setup", name := "copyFrom", desc := "(LWeatherInsurance$Setup;)V" } : Jvm.MethodName), prog_8_method_2_code, 2, none, [], (2, 1, 30, 0, 0), (false, false, []), [(0, .aload_n 0, 1, 0, 0), (1, .aload_n 1, 1, 0, 0), (2, .getfield 25, 3, 6, 0), (5, .putfield 25, 3, 6, 0), (8, .aload_n 1, 1, 0, 0), (9, .getfield 9, 3, 6, 1), (12, .iconst 0, 1, 0, 0), (13, .aload_n 0, 1, 0, 0), (14, .getfield 9, 3, 6, 1), (17, .iconst 0, 1, 0, 0), (18, .bipush 8, 2, 0, 0), (20, .invokestatic 29, 3, 1003, 0), (23, .aload_n 1, 1, 0, 0), (24, .getfield 15, 3, 6, 2), (27, .iconst 0, 1, 0, 0), (28, .aload_n 0, 1, 0, 0), (29, .getfield 15, 3, 6, 2), (32, .iconst 0, 1, 0, 0), (33, .bipush 48, 2, 0, 0), (35, .invokestatic 29, 3, 1003, 0), (38, .aload_n 1, 1, 0, 0), (39, .getfield 19, 3, 6, 3), (42, .iconst 0, 1, 0, 0), (43, .aload_n 0, 1, 0, 0), (44, .getfield 19, 3, 6, 3), (47, .iconst 0, 1, 0, 0), (48, .bipush 8, 2, 0, 0), (50, .invokestatic 29, 3, 1003, 0), (53, .aload_n 0, 1, 0, 0), (54, .aload_n 1, 1, 0, 0), (55, .getfield 35, 3, 6, 4), (58, .putfield 35, 3, 6, 4), (61, .aload_n 1, 1, 0, 0), (62, .getfield 22, 3, 6, 5), (65, .iconst 0, 1, 0, 0), (66, .aload_n 0, 1, 0, 0), (67, .getfield 22, 3, 6, 5), (70, .iconst 0, 1, 0, 0), (71, .iconst 3, 1, 0, 0), (72, .invokestatic 29, 3, 1003, 0), (75, .aload_n 0, 1, 0, 0), (76, .aload_n 1, 1, 0, 0), (77, .getfield 38, 3, 6, 6), (80, .putfield 38, 3, 6, 6), (83, .return_, 1, 0, 0)])
set_option maxRecDepth 100000 in
def md_30 : a_Md := (({ cls := "WeatherInsurance$Ledger", name := "begin", desc := "(LWeatherInsurance$Setup;)V" } : Jvm.MethodName), prog_5_method_3_code, 2, none, [], (2, 1, 30, 0, 0), (false, false, []), [(0, .aload_n 0, 1, 0, 0), (1, .iconst 0, 1, 0, 0), (2, .putfield 31, 3, 3, 0), (5, .aload_n 0, 1, 0, 0), (6, .aload_n 1, 1, 0, 0), (7, .getfield 65, 3, 6, 6), (10, .putfield 35, 3, 3, 1), (13, .aload_n 1, 1, 0, 0), (14, .getfield 68, 3, 6, 3), (17, .iconst 0, 1, 0, 0), (18, .aload_n 0, 1, 0, 0), (19, .getfield 9, 3, 3, 2), (22, .iconst 0, 1, 0, 0), (23, .bipush 8, 2, 0, 0), (25, .invokestatic 38, 3, 1003, 0), (28, .aload_n 0, 1, 0, 0), (29, .iconst 0, 1, 0, 0), (30, .putfield 44, 3, 3, 3), (33, .aload_n 0, 1, 0, 0), (34, .iconst 0, 1, 0, 0), (35, .putfield 47, 3, 3, 5), (38, .aload_n 0, 1, 0, 0), (39, .iconst 0, 1, 0, 0), (40, .putfield 50, 3, 3, 10), (43, .aload_n 0, 1, 0, 0), (44, .iconst 0, 1, 0, 0), (45, .putfield 53, 3, 3, 11), (48, .aload_n 0, 1, 0, 0), (49, .iconst 0, 1, 0, 0), (50, .putfield 56, 3, 3, 12), (53, .aload_n 0, 1, 0, 0), (54, .iconst 0, 1, 0, 0), (55, .putfield 59, 3, 3, 13), (58, .aload_n 0, 1, 0, 0), (59, .iconst 0, 1, 0, 0), (60, .putfield 62, 3, 3, 14), (63, .return_, 1, 0, 0)])
set_option maxRecDepth 100000 in
def md_31 : a_Md := (({ cls := "WeatherInsurance$Office", name := "openWith", desc := "(LWeatherInsurance$Setup;)V" } : Jvm.MethodName), prog_6_method_2_code, 2, none, [], (2, 2, 51, 0, 0), (false, false, []), [(0, .aload_n 0, 1, 0, 0), (1, .getfield 12, 3, 4, 0), (4, .aload_n 1, 1, 0, 0), (5, .invokevirtual 35, 3, 29, 6), (8, .aload_n 0, 1, 0, 0), (9, .getfield 28, 3, 4, 2), (12, .aload_n 0, 1, 0, 0), (13, .getfield 12, 3, 4, 0), (16, .invokevirtual 39, 3, 30, 3), (19, .return_, 1, 0, 0)])
set_option maxRecDepth 100000 in
def md_32 : a_Md := (({ cls := "WeatherInsurance$History", name := "forgetAll", desc := "()V" } : Jvm.MethodName), prog_4_method_2_code, 1, none, [], (1, 0, 0, 0, 0), (false, false, []), [(0, .aload_n 0, 1, 0, 0), (1, .iconst 0, 1, 0, 0), (2, .putfield 18, 3, 2, 2), (5, .return_, 1, 0, 0)])
set_option maxRecDepth 100000 in
def md_33 : a_Md := (({ cls := "WeatherInsurance", name := "loadSetup", desc := "()I" } : Jvm.MethodName), prog_1_method_5_code, 1, (some .int), [], (1, 9, 205, 0, 0), (false, false, []), [(0, .aload_n 0, 1, 0, 0), (1, .invokevirtual 107, 3, 9, 8), (4, .aload_n 0, 1, 0, 0), (5, .getfield 26, 3, 8, 5), (8, .aload_n 0, 1, 0, 0), (9, .getfield 19, 3, 8, 4), (12, .invokevirtual 110, 3, 28, 6), (15, .ifCond .ne 5, 3, 0, 0), (18, .iconst (-1), 1, 0, 0), (19, .ireturn, 1, 0, 0), (20, .aload_n 0, 1, 0, 0), (21, .getfield 54, 3, 8, 9), (24, .aload_n 0, 1, 0, 0), (25, .getfield 26, 3, 8, 5), (28, .invokevirtual 114, 3, 31, 4), (31, .aload_n 0, 1, 0, 0), (32, .getfield 47, 3, 8, 8), (35, .invokevirtual 118, 3, 32, 2), (38, .aload_n 0, 1, 0, 0), (39, .iconst 0, 1, 0, 0), (40, .putfield 121, 3, 8, 15), (43, .aload_n 0, 1, 0, 0), (44, .getfield 61, 3, 8, 10), (47, .getfield 125, 3, 6, 0), (50, .ireturn, 1, 0, 0)])
set_option maxRecDepth 100000 in
def md_34 : a_Md := (({ cls := "WeatherInsurance", name := "<init>", desc := "()V" } : Jvm.MethodName), prog_1_method_1_code, 2, none, [], (1, 10, 225, 154, 6832), (false, true, []), [(0, .aload_n 0, 1, 0, 0), (1, .invokespecial 1, 3, 1000, 0), (4, .aload_n 0, 1, 0, 0), (5, .sipush 600, 3, 0, 0), (8, .newarray .byte, 2, 0, 0), (10, .putfield 9, 3, 8, 0), (13, .aload_n 0, 1, 0, 0), (14, .bipush 16, 2, 0, 0), (16, .newarray .byte, 2, 0, 0), (18, .putfield 13, 3, 8, 2), (21, .aload_n 0, 1, 0, 0), (22, .new 16, 3, 7, 0), (25, .dup, 1, 0, 0), (26, .invokespecial 18, 3, 0, 1), (29, .putfield 19, 3, 8, 4), (32, .aload_n 0, 1, 0, 0), (33, .new 23, 3, 6, 0), (36, .dup, 1, 0, 0), (37, .invokespecial 25, 3, 1, 1), (40, .putfield 26, 3, 8, 5), (43, .aload_n 0, 1, 0, 0), (44, .new 30, 3, 5, 0), (47, .dup, 1, 0, 0), (48, .invokespecial 32, 3, 2, 1), (51, .putfield 33, 3, 8, 6), (54, .aload_n 0, 1, 0, 0), (55, .new 37, 3, 0, 0), (58, .dup, 1, 0, 0), (59, .invokespecial 39, 3, 3, 1), (62, .putfield 40, 3, 8, 7), (65, .aload_n 0, 1, 0, 0), (66, .new 44, 3, 2, 0), (69, .dup, 1, 0, 0), (70, .invokespecial 46, 3, 5, 0), (73, .putfield 47, 3, 8, 8), (76, .aload_n 0, 1, 0, 0), (77, .new 51, 3, 4, 0), (80, .dup, 1, 0, 0), (81, .invokespecial 53, 3, 7, 1), (84, .putfield 54, 3, 8, 9), (87, .aload_n 0, 1, 0, 0), (88, .aload_n 0, 1, 0, 0), (89, .getfield 54, 3, 8, 9), (92, .getfield 58, 3, 4, 0), (95, .putfield 61, 3, 8, 10), (98, .aload_n 0, 1, 0, 0), (99, .aload_n 0, 1, 0, 0), (100, .getfield 54, 3, 8, 9), (103, .getfield 62, 3, 4, 1), (106, .putfield 66, 3, 8, 11), (109, .aload_n 0, 1, 0, 0), (110, .aload_n 0, 1, 0, 0), (111, .getfield 54, 3, 8, 9), (114, .getfield 67, 3, 4, 2), (117, .putfield 71, 3, 8, 12), (120, .aload_n 0, 1, 0, 0), (121, .new 72, 3, 1, 0), (124, .dup, 1, 0, 0), (125, .invokespecial 74, 3, 6, 1), (128, .putfield 75, 3, 8, 13), (131, .aload_n 0, 1, 0, 0), (132, .new 78, 3, 3, 0), (135, .dup, 1, 0, 0), (136, .invokespecial 80, 3, 4, 1), (139, .putfield 81, 3, 8, 14), (142, .iconst 0, 1, 0, 0), (143, .istore_n 1, 1, 0, 0), (144, .iload_n 1, 1, 0, 0), (145, .ldc 84, 2, 0, 0), (147, .invokevirtual 86, 3, 1004, 0), (150, .if_icmp .ge 36, 3, 0, 0), (153, .iload_n 1, 1, 0, 0), (154, .sipush 600, 3, 0, 0), (157, .if_icmp .ge 29, 3, 0, 0), (160, .aload_n 0, 1, 0, 0), (161, .getfield 9, 3, 8, 0), (164, .iload_n 1, 1, 0, 0), (165, .ldc 84, 2, 0, 0), (167, .iload_n 1, 1, 0, 0), (168, .invokevirtual 92, 3, 1005, 0), (171, .i2b, 1, 0, 0), (172, .bastore, 1, 0, 0), (173, .aload_n 0, 1, 0, 0), (174, .iload_n 1, 1, 0, 0), (175, .iconst 1, 1, 0, 0), (176, .iadd, 1, 0, 0), (177, .putfield 96, 3, 8, 1), (180, .iinc 1 1, 3, 0, 0), (183, .goto (-39), 3, 0, 0), (186, .aload_n 0, 1, 0, 0), (187, .invokevirtual 100, 3, 33, 8), (190, .pop, 1, 0, 0), (191, .return_, 1, 0, 0)])
set_option maxRecDepth 100000 in
def md_35 : a_Md := (({ cls := "WeatherInsuranceLaw", name := "<init>", desc := "()V" } : Jvm.MethodName), method_1_code, 1, none, [], (1, 1, 30, 25, 400), (false, true, []), [(0, .aload_n 0, 1, 0, 0), (1, .invokespecial 1, 3, 1000, 0), (4, .aload_n 0, 1, 0, 0), (5, .iconst 4, 1, 0, 0), (6, .newarray .int, 2, 0, 0), (8, .putfield 7, 3, 9, 0), (11, .aload_n 0, 1, 0, 0), (12, .iconst 4, 1, 0, 0), (13, .newarray .int, 2, 0, 0), (15, .putfield 13, 3, 9, 1), (18, .aload_n 0, 1, 0, 0), (19, .iconst 3, 1, 0, 0), (20, .newarray .int, 2, 0, 0), (22, .putfield 16, 3, 9, 2), (25, .aload_n 0, 1, 0, 0), (26, .bipush 20, 2, 0, 0), (28, .newarray .int, 2, 0, 0), (30, .putfield 19, 3, 9, 3), (33, .aload_n 0, 1, 0, 0), (34, .bipush 20, 2, 0, 0), (36, .newarray .int, 2, 0, 0), (38, .putfield 22, 3, 9, 4), (41, .aload_n 0, 1, 0, 0), (42, .bipush 20, 2, 0, 0), (44, .newarray .int, 2, 0, 0), (46, .putfield 25, 3, 9, 5), (49, .aload_n 0, 1, 0, 0), (50, .bipush 20, 2, 0, 0), (52, .newarray .int, 2, 0, 0), (54, .putfield 28, 3, 9, 6), (57, .aload_n 0, 1, 0, 0), (58, .bipush 20, 2, 0, 0), (60, .newarray .int, 2, 0, 0), (62, .putfield 31, 3, 9, 7), (65, .aload_n 0, 1, 0, 0), (66, .bipush 20, 2, 0, 0), (68, .newarray .int, 2, 0, 0), (70, .putfield 34, 3, 9, 8), (73, .aload_n 0, 1, 0, 0), (74, .bipush 20, 2, 0, 0), (76, .newarray .int, 2, 0, 0), (78, .putfield 37, 3, 9, 9), (81, .aload_n 0, 1, 0, 0), (82, .bipush 20, 2, 0, 0), (84, .newarray .int, 2, 0, 0), (86, .putfield 40, 3, 9, 10), (89, .aload_n 0, 1, 0, 0), (90, .bipush 20, 2, 0, 0), (92, .newarray .int, 2, 0, 0), (94, .putfield 43, 3, 9, 11), (97, .aload_n 0, 1, 0, 0), (98, .bipush 20, 2, 0, 0), (100, .newarray .boolean, 2, 0, 0), (102, .putfield 46, 3, 9, 12), (105, .aload_n 0, 1, 0, 0), (106, .bipush 20, 2, 0, 0), (108, .newarray .boolean, 2, 0, 0), (110, .putfield 50, 3, 9, 13), (113, .aload_n 0, 1, 0, 0), (114, .bipush 20, 2, 0, 0), (116, .newarray .int, 2, 0, 0), (118, .putfield 53, 3, 9, 14), (121, .aload_n 0, 1, 0, 0), (122, .bipush 20, 2, 0, 0), (124, .newarray .int, 2, 0, 0), (126, .putfield 56, 3, 9, 15), (129, .aload_n 0, 1, 0, 0), (130, .bipush 20, 2, 0, 0), (132, .newarray .int, 2, 0, 0), (134, .putfield 59, 3, 9, 16), (137, .aload_n 0, 1, 0, 0), (138, .bipush 20, 2, 0, 0), (140, .newarray .int, 2, 0, 0), (142, .putfield 62, 3, 9, 17), (145, .aload_n 0, 1, 0, 0), (146, .iconst 3, 1, 0, 0), (147, .bipush 20, 2, 0, 0), (149, .multianewarray 65 2, 4, 0, 0), (153, .putfield 67, 3, 9, 18), (156, .aload_n 0, 1, 0, 0), (157, .iconst 3, 1, 0, 0), (158, .newarray .int, 2, 0, 0), (160, .putfield 70, 3, 9, 19), (163, .aload_n 0, 1, 0, 0), (164, .iconst 3, 1, 0, 0), (165, .newarray .int, 2, 0, 0), (167, .putfield 73, 3, 9, 20), (170, .aload_n 0, 1, 0, 0), (171, .bipush 20, 2, 0, 0), (173, .newarray .int, 2, 0, 0), (175, .putfield 76, 3, 9, 21), (178, .return_, 1, 0, 0)])
set_option maxRecDepth 100000 in
def md_36 : a_Md := (({ cls := "WeatherInsuranceLaw", name := "cell", desc := "([II)I" } : Jvm.MethodName), method_2_code, 2, (some .int), [], (2, 0, 0, 0, 0), (false, false, []), [(0, .iload_n 1, 1, 0, 0), (1, .aload_n 0, 1, 0, 0), (2, .arraylength, 1, 0, 0), (3, .if_icmp .ge 9, 3, 0, 0), (6, .aload_n 0, 1, 0, 0), (7, .iload_n 1, 1, 0, 0), (8, .iaload, 1, 0, 0), (9, .goto 10, 3, 0, 0), (12, .bipush 113, 2, 0, 0), (14, .iload_n 1, 1, 0, 0), (15, .imul, 1, 0, 0), (16, .bipush 67, 2, 0, 0), (18, .iadd, 1, 0, 0), (19, .ireturn, 1, 0, 0)])
set_option maxRecDepth 100000 in
def md_37 : a_Md := (({ cls := "WeatherInsuranceLaw", name := "bits", desc := "(III)I" } : Jvm.MethodName), method_3_code, 3, (some .int), [], (3, 0, 0, 0, 0), (false, false, []), [(0, .iload_n 0, 1, 0, 0), (1, .iload_n 1, 1, 0, 0), (2, .iushr, 1, 0, 0), (3, .iconst 1, 1, 0, 0), (4, .iload_n 2, 1, 0, 0), (5, .ishl, 1, 0, 0), (6, .iconst 1, 1, 0, 0), (7, .isub, 1, 0, 0), (8, .iand, 1, 0, 0), (9, .ireturn, 1, 0, 0)])
set_option maxRecDepth 100000 in
def md_38 : a_Md := (({ cls := "WeatherInsurance", name := "appendWord", desc := "(I)V" } : Jvm.MethodName), prog_1_method_3_code, 3, none, [], (2, 0, 0, 0, 0), (false, false, []), [(0, .bipush 24, 2, 0, 0), (2, .istore_n 2, 1, 0, 0), (3, .iload_n 2, 1, 0, 0), (4, .ifCond .lt 42, 3, 0, 0), (7, .aload_n 0, 1, 0, 0), (8, .getfield 96, 3, 8, 1), (11, .sipush 600, 3, 0, 0), (14, .if_icmp .ge 32, 3, 0, 0), (17, .aload_n 0, 1, 0, 0), (18, .getfield 9, 3, 8, 0), (21, .aload_n 0, 1, 0, 0), (22, .getfield 96, 3, 8, 1), (25, .iload_n 1, 1, 0, 0), (26, .iload_n 2, 1, 0, 0), (27, .iushr, 1, 0, 0), (28, .i2b, 1, 0, 0), (29, .bastore, 1, 0, 0), (30, .aload_n 0, 1, 0, 0), (31, .dup, 1, 0, 0), (32, .getfield 96, 3, 8, 1), (35, .iconst 1, 1, 0, 0), (36, .iadd, 1, 0, 0), (37, .putfield 96, 3, 8, 1), (40, .iinc 2 (-8), 3, 0, 0), (43, .goto (-40), 3, 0, 0), (46, .return_, 1, 0, 0)])
set_option maxRecDepth 100000 in
def md_39 : a_Md := (({ cls := "WeatherInsurance", name := "appendInput", desc := "(IIIII)I" } : Jvm.MethodName), prog_1_method_2_code, 6, (some .int), [], (6, 1, 22, 0, 0), (false, false, []), [(0, .aload_n 0, 1, 0, 0), (1, .getfield 96, 3, 8, 1), (4, .bipush 20, 2, 0, 0), (6, .iadd, 1, 0, 0), (7, .sipush 600, 3, 0, 0), (10, .if_icmp .le 5, 3, 0, 0), (13, .iconst (-1), 1, 0, 0), (14, .ireturn, 1, 0, 0), (15, .aload_n 0, 1, 0, 0), (16, .iload_n 1, 1, 0, 0), (17, .invokevirtual 103, 3, 38, 8), (20, .aload_n 0, 1, 0, 0), (21, .iload_n 2, 1, 0, 0), (22, .invokevirtual 103, 3, 38, 8), (25, .aload_n 0, 1, 0, 0), (26, .iload_n 3, 1, 0, 0), (27, .invokevirtual 103, 3, 38, 8), (30, .aload_n 0, 1, 0, 0), (31, .iload 4, 2, 0, 0), (33, .invokevirtual 103, 3, 38, 8), (36, .aload_n 0, 1, 0, 0), (37, .iload 5, 2, 0, 0), (39, .invokevirtual 103, 3, 38, 8), (42, .aload_n 0, 1, 0, 0), (43, .getfield 96, 3, 8, 1), (46, .ireturn, 1, 0, 0)])
set_option maxRecDepth 100000 in
def md_40 : a_Md := (({ cls := "WeatherInsurance", name := "truncateInput", desc := "(I)Z" } : Jvm.MethodName), prog_1_method_4_code, 2, (some .boolean), [], (2, 0, 0, 0, 0), (false, false, []), [(0, .iload_n 1, 1, 0, 0), (1, .ifCond .lt 11, 3, 0, 0), (4, .iload_n 1, 1, 0, 0), (5, .aload_n 0, 1, 0, 0), (6, .getfield 96, 3, 8, 1), (9, .if_icmp .le 5, 3, 0, 0), (12, .iconst 0, 1, 0, 0), (13, .ireturn, 1, 0, 0), (14, .aload_n 0, 1, 0, 0), (15, .iload_n 1, 1, 0, 0), (16, .putfield 96, 3, 8, 1), (19, .iconst 1, 1, 0, 0), (20, .ireturn, 1, 0, 0)])
set_option maxRecDepth 100000 in
def md_41 : a_Md := (({ cls := "WeatherInsuranceLaw", name := "told", desc := "(LWeatherInsurance;Ljava/lang/String;)V" } : Jvm.MethodName), method_4_code, 5, none, [], (2, 6, 140, 5, 25), (false, false, []), [(0, .iconst 0, 1, 0, 0), (1, .istore_n 2, 1, 0, 0), (2, .iload_n 2, 1, 0, 0), (3, .aload_n 1, 1, 0, 0), (4, .invokevirtual 79, 3, 1004, 0), (7, .if_icmp .ge 89, 3, 0, 0), (10, .iconst 5, 1, 0, 0), (11, .newarray .int, 2, 0, 0), (13, .astore_n 3, 1, 0, 0), (14, .iconst 0, 1, 0, 0), (15, .istore 4, 2, 0, 0), (17, .iload 4, 2, 0, 0), (19, .bipush 20, 2, 0, 0), (21, .if_icmp .ge 49, 3, 0, 0), (24, .aload_n 3, 1, 0, 0), (25, .iload 4, 2, 0, 0), (27, .iconst 4, 1, 0, 0), (28, .idiv, 1, 0, 0), (29, .aload_n 3, 1, 0, 0), (30, .iload 4, 2, 0, 0), (32, .iconst 4, 1, 0, 0), (33, .idiv, 1, 0, 0), (34, .iaload, 1, 0, 0), (35, .bipush 8, 2, 0, 0), (37, .ishl, 1, 0, 0), (38, .iload_n 2, 1, 0, 0), (39, .iload 4, 2, 0, 0), (41, .iadd, 1, 0, 0), (42, .aload_n 1, 1, 0, 0), (43, .invokevirtual 79, 3, 1004, 0), (46, .if_icmp .ge 14, 3, 0, 0), (49, .aload_n 1, 1, 0, 0), (50, .iload_n 2, 1, 0, 0), (51, .iload 4, 2, 0, 0), (53, .iadd, 1, 0, 0), (54, .invokevirtual 85, 3, 1005, 0), (57, .goto 5, 3, 0, 0), (60, .bipush 32, 2, 0, 0), (62, .ior, 1, 0, 0), (63, .iastore, 1, 0, 0), (64, .iinc 4 1, 3, 0, 0), (67, .goto (-50), 3, 0, 0), (70, .aload_n 0, 1, 0, 0), (71, .aload_n 3, 1, 0, 0), (72, .iconst 0, 1, 0, 0), (73, .iaload, 1, 0, 0), (74, .aload_n 3, 1, 0, 0), (75, .iconst 1, 1, 0, 0), (76, .iaload, 1, 0, 0), (77, .aload_n 3, 1, 0, 0), (78, .iconst 2, 1, 0, 0), (79, .iaload, 1, 0, 0), (80, .aload_n 3, 1, 0, 0), (81, .iconst 3, 1, 0, 0), (82, .iaload, 1, 0, 0), (83, .aload_n 3, 1, 0, 0), (84, .iconst 4, 1, 0, 0), (85, .iaload, 1, 0, 0), (86, .invokevirtual 89, 3, 39, 8), (89, .pop, 1, 0, 0), (90, .iinc 2 20, 3, 0, 0), (93, .goto (-91), 3, 0, 0), (96, .aload_n 0, 1, 0, 0), (97, .aload_n 1, 1, 0, 0), (98, .invokevirtual 79, 3, 1004, 0), (101, .invokevirtual 95, 3, 40, 8), (104, .pop, 1, 0, 0), (105, .return_, 1, 0, 0)])
set_option maxRecDepth 100000 in
def md_42 : a_Md := (({ cls := "WeatherInsurance", name := "clock", desc := "()I" } : Jvm.MethodName), prog_1_method_10_code, 1, (some .int), [], (1, 0, 0, 0, 0), (false, false, []), [(0, .aload_n 0, 1, 0, 0), (1, .getfield 71, 3, 8, 12), (4, .getfield 152, 3, 3, 0), (7, .ireturn, 1, 0, 0)])
set_option maxRecDepth 100000 in
def md_43 : a_Md := (({ cls := "WeatherInsurance", name := "reserve", desc := "()I" } : Jvm.MethodName), prog_1_method_11_code, 1, (some .int), [], (1, 0, 0, 0, 0), (false, false, []), [(0, .aload_n 0, 1, 0, 0), (1, .getfield 71, 3, 8, 12), (4, .getfield 155, 3, 3, 1), (7, .ireturn, 1, 0, 0)])
set_option maxRecDepth 100000 in
def md_44 : a_Md := (({ cls := "WeatherInsurance", name := "policyCount", desc := "()I" } : Jvm.MethodName), prog_1_method_18_code, 1, (some .int), [], (1, 0, 0, 0, 0), (false, false, []), [(0, .aload_n 0, 1, 0, 0), (1, .getfield 71, 3, 8, 12), (4, .getfield 172, 3, 3, 3), (7, .ireturn, 1, 0, 0)])
set_option maxRecDepth 100000 in
def md_45 : a_Md := (({ cls := "WeatherInsurance", name := "claimCount", desc := "()I" } : Jvm.MethodName), prog_1_method_29_code, 1, (some .int), [], (1, 0, 0, 0, 0), (false, false, []), [(0, .aload_n 0, 1, 0, 0), (1, .getfield 71, 3, 8, 12), (4, .getfield 220, 3, 3, 5), (7, .ireturn, 1, 0, 0)])
set_option maxRecDepth 100000 in
def md_46 : a_Md := (({ cls := "WeatherInsurance", name := "totalPremiums", desc := "()I" } : Jvm.MethodName), prog_1_method_42_code, 1, (some .int), [], (1, 0, 0, 0, 0), (false, false, []), [(0, .aload_n 0, 1, 0, 0), (1, .getfield 71, 3, 8, 12), (4, .getfield 262, 3, 3, 12), (7, .ireturn, 1, 0, 0)])
set_option maxRecDepth 100000 in
def md_47 : a_Md := (({ cls := "WeatherInsurance", name := "totalPaid", desc := "()I" } : Jvm.MethodName), prog_1_method_43_code, 1, (some .int), [], (1, 0, 0, 0, 0), (false, false, []), [(0, .aload_n 0, 1, 0, 0), (1, .getfield 71, 3, 8, 12), (4, .getfield 265, 3, 3, 13), (7, .ireturn, 1, 0, 0)])
set_option maxRecDepth 100000 in
def md_48 : a_Md := (({ cls := "WeatherInsurance", name := "totalDeposits", desc := "()I" } : Jvm.MethodName), prog_1_method_44_code, 1, (some .int), [], (1, 0, 0, 0, 0), (false, false, []), [(0, .aload_n 0, 1, 0, 0), (1, .getfield 71, 3, 8, 12), (4, .getfield 268, 3, 3, 14), (7, .ireturn, 1, 0, 0)])
set_option maxRecDepth 100000 in
def md_49 : a_Md := (({ cls := "WeatherInsurance", name := "nextPayment", desc := "()I" } : Jvm.MethodName), prog_1_method_40_code, 1, (some .int), [], (1, 0, 0, 0, 0), (false, false, []), [(0, .aload_n 0, 1, 0, 0), (1, .getfield 71, 3, 8, 12), (4, .getfield 253, 3, 3, 11), (7, .aload_n 0, 1, 0, 0), (8, .getfield 71, 3, 8, 12), (11, .getfield 256, 3, 3, 10), (14, .if_icmp .ge 21, 3, 0, 0), (17, .aload_n 0, 1, 0, 0), (18, .getfield 71, 3, 8, 12), (21, .getfield 259, 3, 3, 9), (24, .aload_n 0, 1, 0, 0), (25, .getfield 71, 3, 8, 12), (28, .getfield 253, 3, 3, 11), (31, .iaload, 1, 0, 0), (32, .goto 4, 3, 0, 0), (35, .iconst (-1), 1, 0, 0), (36, .ireturn, 1, 0, 0)])
set_option maxRecDepth 100000 in
def md_50 : a_Md := (({ cls := "WeatherInsurance", name := "requireIndex", desc := "(II)V" } : Jvm.MethodName), prog_1_method_74_code, 2, none, [], (2, 0, 0, 0, 0), (false, false, []), [(0, .iload_n 0, 1, 0, 0), (1, .ifCond .lt 8, 3, 0, 0), (4, .iload_n 0, 1, 0, 0), (5, .iload_n 1, 1, 0, 0), (6, .if_icmp .lt 14, 3, 0, 0), (20, .return_, 1, 0, 0)])
set_option maxRecDepth 100000 in
def md_51 : a_Md := (({ cls := "WeatherInsurance", name := "requireHolder", desc := "(I)V" } : Jvm.MethodName), prog_1_method_69_code, 2, none, [], (2, 1, 21, 0, 0), (false, false, []), [(0, .iload_n 1, 1, 0, 0), (1, .aload_n 0, 1, 0, 0), (2, .getfield 61, 3, 8, 10), (5, .getfield 125, 3, 6, 0), (8, .invokestatic 365, 3, 50, 0), (11, .return_, 1, 0, 0)])
set_option maxRecDepth 100000 in
def md_52 : a_Md := (({ cls := "WeatherInsurance", name := "balance", desc := "(I)I" } : Jvm.MethodName), prog_1_method_14_code, 2, (some .int), [], (2, 2, 42, 0, 0), (false, false, []), [(0, .aload_n 0, 1, 0, 0), (1, .iload_n 1, 1, 0, 0), (2, .invokevirtual 158, 3, 51, 8), (5, .aload_n 0, 1, 0, 0), (6, .getfield 71, 3, 8, 12), (9, .getfield 169, 3, 3, 2), (12, .iload_n 1, 1, 0, 0), (13, .iaload, 1, 0, 0), (14, .ireturn, 1, 0, 0)])
set_option maxRecDepth 100000 in
def md_53 : a_Md := (({ cls := "WeatherInsurance", name := "requirePolicy", desc := "(I)V" } : Jvm.MethodName), prog_1_method_71_code, 2, none, [], (2, 1, 21, 0, 0), (false, false, []), [(0, .iload_n 1, 1, 0, 0), (1, .aload_n 0, 1, 0, 0), (2, .getfield 71, 3, 8, 12), (5, .getfield 172, 3, 3, 3), (8, .invokestatic 365, 3, 50, 0), (11, .return_, 1, 0, 0)])
set_option maxRecDepth 100000 in
def md_54 : a_Md := (({ cls := "WeatherInsurance", name := "premiumForKite", desc := "(II)I" } : Jvm.MethodName), prog_1_method_51_code, 2, (some .int), [], (2, 0, 0, 0, 0), (false, false, []), [(0, .iload_n 1, 1, 0, 0), (1, .iload_n 0, 1, 0, 0), (2, .imul, 1, 0, 0), (3, .bipush 40, 2, 0, 0), (5, .idiv, 1, 0, 0), (6, .iconst 1, 1, 0, 0), (7, .iadd, 1, 0, 0), (8, .ireturn, 1, 0, 0)])
set_option maxRecDepth 100000 in
def md_55 : a_Md := (({ cls := "WeatherInsurance", name := "premiumForPicnic", desc := "(III)I" } : Jvm.MethodName), prog_1_method_52_code, 4, (some .int), [], (3, 0, 0, 0, 0), (false, false, []), [(0, .bipush 20, 2, 0, 0), (2, .iconst 2, 1, 0, 0), (3, .iload_n 2, 1, 0, 0), (4, .imul, 1, 0, 0), (5, .iadd, 1, 0, 0), (6, .istore_n 3, 1, 0, 0), (7, .iload_n 3, 1, 0, 0), (8, .ifCond .le 13, 3, 0, 0), (11, .iload_n 1, 1, 0, 0), (12, .iload_n 0, 1, 0, 0), (13, .imul, 1, 0, 0), (14, .iload_n 3, 1, 0, 0), (15, .idiv, 1, 0, 0), (16, .iconst 1, 1, 0, 0), (17, .iadd, 1, 0, 0), (18, .goto 4, 3, 0, 0), (21, .iconst 1, 1, 0, 0), (22, .ireturn, 1, 0, 0)])
set_option maxRecDepth 100000 in
def md_56 : a_Md := (({ cls := "WeatherInsurance$Book", name := "premiumOf", desc := "(I)I" } : Jvm.MethodName), prog_3_method_4_code, 2, (some .int), [], (2, 1, 23, 0, 0), (false, false, []), [(0, .aload_n 0, 1, 0, 0), (1, .getfield 18, 3, 1, 2), (4, .iload_n 1, 1, 0, 0), (5, .baload, 1, 0, 0), (6, .ifCond .eq 21, 3, 0, 0), (9, .aload_n 0, 1, 0, 0), (10, .getfield 28, 3, 1, 5), (13, .iload_n 1, 1, 0, 0), (14, .iaload, 1, 0, 0), (15, .aload_n 0, 1, 0, 0), (16, .getfield 31, 3, 1, 6), (19, .iload_n 1, 1, 0, 0), (20, .iaload, 1, 0, 0), (21, .invokestatic 55, 3, 54, 1), (24, .goto 24, 3, 0, 0), (27, .aload_n 0, 1, 0, 0), (28, .getfield 28, 3, 1, 5), (31, .iload_n 1, 1, 0, 0), (32, .iaload, 1, 0, 0), (33, .aload_n 0, 1, 0, 0), (34, .getfield 31, 3, 1, 6), (37, .iload_n 1, 1, 0, 0), (38, .iaload, 1, 0, 0), (39, .aload_n 0, 1, 0, 0), (40, .getfield 40, 3, 1, 9), (43, .iload_n 1, 1, 0, 0), (44, .iaload, 1, 0, 0), (45, .invokestatic 59, 3, 55, 1), (48, .ireturn, 1, 0, 0)])
set_option maxRecDepth 100000 in
def md_57 : a_Md := (({ cls := "WeatherInsurance", name := "premium", desc := "(I)I" } : Jvm.MethodName), prog_1_method_24_code, 2, (some .int), [], (2, 2, 44, 0, 0), (false, false, []), [(0, .aload_n 0, 1, 0, 0), (1, .iload_n 1, 1, 0, 0), (2, .invokevirtual 195, 3, 53, 8), (5, .aload_n 0, 1, 0, 0), (6, .getfield 66, 3, 8, 11), (9, .iload_n 1, 1, 0, 0), (10, .invokevirtual 182, 3, 56, 1), (13, .ireturn, 1, 0, 0)])
set_option maxRecDepth 100000 in
def md_58 : a_Md := (({ cls := "WeatherInsurance$Book", name := "expiryOf", desc := "(I)I" } : Jvm.MethodName), prog_3_method_3_code, 2, (some .int), [], (2, 0, 0, 0, 0), (false, false, []), [(0, .aload_n 0, 1, 0, 0), (1, .getfield 25, 3, 1, 4), (4, .iload_n 1, 1, 0, 0), (5, .iaload, 1, 0, 0), (6, .aload_n 0, 1, 0, 0), (7, .getfield 28, 3, 1, 5), (10, .iload_n 1, 1, 0, 0), (11, .iaload, 1, 0, 0), (12, .iadd, 1, 0, 0), (13, .ireturn, 1, 0, 0)])
set_option maxRecDepth 100000 in
def md_59 : a_Md := (({ cls := "WeatherInsurance$Office", name := "isRunning", desc := "(LWeatherInsurance$Ledger;I)Z" } : Jvm.MethodName), prog_6_method_8_code, 3, (some .boolean), [], (3, 1, 21, 0, 0), (false, false, []), [(0, .aload_n 1, 1, 0, 0), (1, .getfield 94, 3, 3, 4), (4, .iload_n 2, 1, 0, 0), (5, .baload, 1, 0, 0), (6, .ifCond .ne 22, 3, 0, 0), (9, .aload_n 1, 1, 0, 0), (10, .getfield 42, 3, 3, 0), (13, .aload_n 0, 1, 0, 0), (14, .getfield 21, 3, 4, 1), (17, .iload_n 2, 1, 0, 0), (18, .invokevirtual 97, 3, 58, 1), (21, .if_icmp .ge 7, 3, 0, 0), (24, .iconst 1, 1, 0, 0), (25, .goto 4, 3, 0, 0), (28, .iconst 0, 1, 0, 0), (29, .ireturn, 1, 0, 0)])
set_option maxRecDepth 100000 in
def md_60 : a_Md := (({ cls := "WeatherInsurance", name := "isActive", desc := "(I)Z" } : Jvm.MethodName), prog_1_method_25_code, 2, (some .boolean), [], (2, 2, 43, 0, 0), (false, false, []), [(0, .aload_n 0, 1, 0, 0), (1, .iload_n 1, 1, 0, 0), (2, .invokevirtual 195, 3, 53, 8), (5, .aload_n 0, 1, 0, 0), (6, .getfield 54, 3, 8, 9), (9, .aload_n 0, 1, 0, 0), (10, .getfield 71, 3, 8, 12), (13, .iload_n 1, 1, 0, 0), (14, .invokevirtual 178, 3, 59, 4), (17, .ireturn, 1, 0, 0)])
set_option maxRecDepth 100000 in
def md_61 : a_Md := (({ cls := "WeatherInsuranceLaw", name := "isActive", desc := "(I)Z" } : Jvm.MethodName), method_5_code, 2, (some .boolean), [], (2, 0, 0, 0, 0), (false, false, []), [(0, .aload_n 0, 1, 0, 0), (1, .getfield 46, 3, 9, 12), (4, .iload_n 1, 1, 0, 0), (5, .baload, 1, 0, 0), (6, .ifCond .ne 27, 3, 0, 0), (9, .aload_n 0, 1, 0, 0), (10, .getfield 99, 3, 9, 26), (13, .aload_n 0, 1, 0, 0), (14, .getfield 25, 3, 9, 5), (17, .iload_n 1, 1, 0, 0), (18, .iaload, 1, 0, 0), (19, .aload_n 0, 1, 0, 0), (20, .getfield 28, 3, 9, 6), (23, .iload_n 1, 1, 0, 0), (24, .iaload, 1, 0, 0), (25, .iadd, 1, 0, 0), (26, .if_icmp .ge 7, 3, 0, 0), (29, .iconst 1, 1, 0, 0), (30, .goto 4, 3, 0, 0), (33, .iconst 0, 1, 0, 0), (34, .ireturn, 1, 0, 0)])
set_option maxRecDepth 100000 in
def md_62 : a_Md := (({ cls := "WeatherInsurance", name := "hasLapsed", desc := "(I)Z" } : Jvm.MethodName), prog_1_method_26_code, 2, (some .boolean), [], (2, 2, 42, 0, 0), (false, false, []), [(0, .aload_n 0, 1, 0, 0), (1, .iload_n 1, 1, 0, 0), (2, .invokevirtual 195, 3, 53, 8), (5, .aload_n 0, 1, 0, 0), (6, .getfield 71, 3, 8, 12), (9, .getfield 211, 3, 3, 4), (12, .iload_n 1, 1, 0, 0), (13, .baload, 1, 0, 0), (14, .ireturn, 1, 0, 0)])
set_option maxRecDepth 100000 in
def md_63 : a_Md := (({ cls := "WeatherInsurance$Book", name := "damageOfHours", desc := "(II)I" } : Jvm.MethodName), prog_3_method_6_code, 4, (some .int), [], (3, 0, 0, 0, 0), (false, false, []), [(0, .aload_n 0, 1, 0, 0), (1, .getfield 28, 3, 1, 5), (4, .iload_n 1, 1, 0, 0), (5, .iaload, 1, 0, 0), (6, .istore_n 3, 1, 0, 0), (7, .iload_n 3, 1, 0, 0), (8, .ifCond .le 16, 3, 0, 0), (11, .aload_n 0, 1, 0, 0), (12, .getfield 31, 3, 1, 6), (15, .iload_n 1, 1, 0, 0), (16, .iaload, 1, 0, 0), (17, .iload_n 2, 1, 0, 0), (18, .imul, 1, 0, 0), (19, .iload_n 3, 1, 0, 0), (20, .idiv, 1, 0, 0), (21, .goto 4, 3, 0, 0), (24, .iconst 0, 1, 0, 0), (25, .ireturn, 1, 0, 0)])
set_option maxRecDepth 100000 in
def md_64 : a_Md := (({ cls := "WeatherInsurance$Book", name := "damageOfRain", desc := "(II)I" } : Jvm.MethodName), prog_3_method_7_code, 4, (some .int), [], (3, 1, 30, 0, 0), (false, false, []), [(0, .iconst 0, 1, 0, 0), (1, .iload_n 2, 1, 0, 0), (2, .aload_n 0, 1, 0, 0), (3, .getfield 40, 3, 1, 9), (6, .iload_n 1, 1, 0, 0), (7, .iaload, 1, 0, 0), (8, .isub, 1, 0, 0), (9, .invokestatic 78, 3, 1002, 0), (12, .istore_n 3, 1, 0, 0), (13, .aload_n 0, 1, 0, 0), (14, .getfield 31, 3, 1, 6), (17, .iload_n 1, 1, 0, 0), (18, .iaload, 1, 0, 0), (19, .aload_n 0, 1, 0, 0), (20, .getfield 31, 3, 1, 6), (23, .iload_n 1, 1, 0, 0), (24, .iaload, 1, 0, 0), (25, .iload_n 3, 1, 0, 0), (26, .imul, 1, 0, 0), (27, .bipush 10, 2, 0, 0), (29, .idiv, 1, 0, 0), (30, .invokestatic 67, 3, 1001, 0), (33, .ireturn, 1, 0, 0)])
set_option maxRecDepth 100000 in
def md_65 : a_Md := (({ cls := "WeatherInsurance$Book", name := "damageUntil", desc := "(II)I" } : Jvm.MethodName), prog_3_method_5_code, 7, (some .int), [], (3, 2, 53, 0, 0), (false, false, []), [(0, .iload_n 2, 1, 0, 0), (1, .aload_n 0, 1, 0, 0), (2, .iload_n 1, 1, 0, 0), (3, .invokevirtual 63, 3, 58, 1), (6, .invokestatic 67, 3, 1001, 0), (9, .istore_n 3, 1, 0, 0), (10, .iconst 0, 1, 0, 0), (11, .istore 4, 2, 0, 0), (13, .iconst 0, 1, 0, 0), (14, .istore 5, 2, 0, 0), (16, .aload_n 0, 1, 0, 0), (17, .getfield 25, 3, 1, 4), (20, .iload_n 1, 1, 0, 0), (21, .iaload, 1, 0, 0), (22, .istore 6, 2, 0, 0), (24, .iload 6, 2, 0, 0), (26, .iload_n 3, 1, 0, 0), (27, .if_icmp .ge 56, 3, 0, 0), (30, .aload_n 0, 1, 0, 0), (31, .getfield 9, 3, 1, 0), (34, .iload 6, 2, 0, 0), (36, .iaload, 1, 0, 0), (37, .aload_n 0, 1, 0, 0), (38, .getfield 34, 3, 1, 7), (41, .iload_n 1, 1, 0, 0), (42, .iaload, 1, 0, 0), (43, .if_icmp .lt 19, 3, 0, 0), (46, .aload_n 0, 1, 0, 0), (47, .getfield 9, 3, 1, 0), (50, .iload 6, 2, 0, 0), (52, .iaload, 1, 0, 0), (53, .aload_n 0, 1, 0, 0), (54, .getfield 37, 3, 1, 8), (57, .iload_n 1, 1, 0, 0), (58, .iaload, 1, 0, 0), (59, .if_icmp .le 6, 3, 0, 0), (62, .iinc 4 1, 3, 0, 0), (65, .iload 5, 2, 0, 0), (67, .aload_n 0, 1, 0, 0), (68, .getfield 15, 3, 1, 1), (71, .iload 6, 2, 0, 0), (73, .iaload, 1, 0, 0), (74, .iadd, 1, 0, 0), (75, .istore 5, 2, 0, 0), (77, .iinc 6 1, 3, 0, 0), (80, .goto (-56), 3, 0, 0), (83, .aload_n 0, 1, 0, 0), (84, .getfield 18, 3, 1, 2), (87, .iload_n 1, 1, 0, 0), (88, .baload, 1, 0, 0), (89, .ifCond .eq 13, 3, 0, 0), (92, .aload_n 0, 1, 0, 0), (93, .iload_n 1, 1, 0, 0), (94, .iload 4, 2, 0, 0), (96, .invokevirtual 72, 3, 63, 1), (99, .goto 10, 3, 0, 0), (102, .aload_n 0, 1, 0, 0), (103, .iload_n 1, 1, 0, 0), (104, .iload 5, 2, 0, 0), (106, .invokevirtual 75, 3, 64, 1), (109, .ireturn, 1, 0, 0)])
set_option maxRecDepth 100000 in
def md_66 : a_Md := (({ cls := "WeatherInsurance", name := "damage", desc := "(I)I" } : Jvm.MethodName), prog_1_method_27_code, 2, (some .int), [], (2, 3, 79, 0, 0), (false, false, []), [(0, .aload_n 0, 1, 0, 0), (1, .iload_n 1, 1, 0, 0), (2, .invokevirtual 195, 3, 53, 8), (5, .aload_n 0, 1, 0, 0), (6, .getfield 66, 3, 8, 11), (9, .iload_n 1, 1, 0, 0), (10, .aload_n 0, 1, 0, 0), (11, .getfield 71, 3, 8, 12), (14, .getfield 152, 3, 3, 0), (17, .invokevirtual 214, 3, 65, 1), (20, .ireturn, 1, 0, 0)])
set_option maxRecDepth 100000 in
def md_67 : a_Md := (({ cls := "WeatherInsuranceLaw", name := "damage", desc := "(I)I" } : Jvm.MethodName), method_6_code, 4, (some .int), [], (2, 0, 0, 0, 0), (false, false, []), [(0, .aload_n 0, 1, 0, 0), (1, .getfield 19, 3, 9, 3), (4, .iload_n 1, 1, 0, 0), (5, .iaload, 1, 0, 0), (6, .ifCond .ne 24, 3, 0, 0), (9, .aload_n 0, 1, 0, 0), (10, .getfield 31, 3, 9, 7), (13, .iload_n 1, 1, 0, 0), (14, .iaload, 1, 0, 0), (15, .aload_n 0, 1, 0, 0), (16, .getfield 43, 3, 9, 11), (19, .iload_n 1, 1, 0, 0), (20, .iaload, 1, 0, 0), (21, .imul, 1, 0, 0), (22, .aload_n 0, 1, 0, 0), (23, .getfield 28, 3, 9, 6), (26, .iload_n 1, 1, 0, 0), (27, .iaload, 1, 0, 0), (28, .idiv, 1, 0, 0), (29, .ireturn, 1, 0, 0), (30, .aload_n 0, 1, 0, 0), (31, .getfield 43, 3, 9, 11), (34, .iload_n 1, 1, 0, 0), (35, .iaload, 1, 0, 0), (36, .aload_n 0, 1, 0, 0), (37, .getfield 34, 3, 9, 8), (40, .iload_n 1, 1, 0, 0), (41, .iaload, 1, 0, 0), (42, .if_icmp .le 19, 3, 0, 0), (45, .aload_n 0, 1, 0, 0), (46, .getfield 43, 3, 9, 11), (49, .iload_n 1, 1, 0, 0), (50, .iaload, 1, 0, 0), (51, .aload_n 0, 1, 0, 0), (52, .getfield 34, 3, 9, 8), (55, .iload_n 1, 1, 0, 0), (56, .iaload, 1, 0, 0), (57, .isub, 1, 0, 0), (58, .goto 4, 3, 0, 0), (61, .iconst 0, 1, 0, 0), (62, .istore_n 2, 1, 0, 0), (63, .aload_n 0, 1, 0, 0), (64, .getfield 31, 3, 9, 7), (67, .iload_n 1, 1, 0, 0), (68, .iaload, 1, 0, 0), (69, .iload_n 2, 1, 0, 0), (70, .imul, 1, 0, 0), (71, .bipush 10, 2, 0, 0), (73, .idiv, 1, 0, 0), (74, .istore_n 3, 1, 0, 0), (75, .iload_n 3, 1, 0, 0), (76, .aload_n 0, 1, 0, 0), (77, .getfield 31, 3, 9, 7), (80, .iload_n 1, 1, 0, 0), (81, .iaload, 1, 0, 0), (82, .if_icmp .le 12, 3, 0, 0), (85, .aload_n 0, 1, 0, 0), (86, .getfield 31, 3, 9, 7), (89, .iload_n 1, 1, 0, 0), (90, .iaload, 1, 0, 0), (91, .goto 4, 3, 0, 0), (94, .iload_n 3, 1, 0, 0), (95, .ireturn, 1, 0, 0)])
set_option maxRecDepth 100000 in
def md_68 : a_Md := (({ cls := "WeatherInsurance$Office", name := "areAlike", desc := "(II)Z" } : Jvm.MethodName), prog_6_method_11_code, 3, (some .boolean), [], (3, 0, 0, 0, 0), (false, false, []), [(0, .aload_n 0, 1, 0, 0), (1, .getfield 21, 3, 4, 1), (4, .getfield 74, 3, 1, 3), (7, .iload_n 1, 1, 0, 0), (8, .iaload, 1, 0, 0), (9, .aload_n 0, 1, 0, 0), (10, .getfield 21, 3, 4, 1), (13, .getfield 74, 3, 1, 3), (16, .iload_n 2, 1, 0, 0), (17, .iaload, 1, 0, 0), (18, .if_icmp .ne 49, 3, 0, 0), (21, .aload_n 0, 1, 0, 0), (22, .getfield 21, 3, 4, 1), (25, .getfield 57, 3, 1, 2), (28, .iload_n 1, 1, 0, 0), (29, .baload, 1, 0, 0), (30, .aload_n 0, 1, 0, 0), (31, .getfield 21, 3, 4, 1), (34, .getfield 57, 3, 1, 2), (37, .iload_n 2, 1, 0, 0), (38, .baload, 1, 0, 0), (39, .if_icmp .ne 28, 3, 0, 0), (42, .aload_n 0, 1, 0, 0), (43, .getfield 21, 3, 4, 1), (46, .getfield 77, 3, 1, 4), (49, .iload_n 1, 1, 0, 0), (50, .iaload, 1, 0, 0), (51, .aload_n 0, 1, 0, 0), (52, .getfield 21, 3, 4, 1), (55, .getfield 77, 3, 1, 4), (58, .iload_n 2, 1, 0, 0), (59, .iaload, 1, 0, 0), (60, .if_icmp .ne 7, 3, 0, 0), (63, .iconst 1, 1, 0, 0), (64, .goto 4, 3, 0, 0), (67, .iconst 0, 1, 0, 0), (68, .ireturn, 1, 0, 0)])
set_option maxRecDepth 100000 in
def md_69 : a_Md := (({ cls := "WeatherInsurance$Office", name := "obstacleByClaims", desc := "(I)I" } : Jvm.MethodName), prog_6_method_10_code, 5, (some .int), [], (2, 1, 22, 0, 0), (false, false, []), [(0, .iconst 0, 1, 0, 0), (1, .istore_n 2, 1, 0, 0), (2, .iconst 0, 1, 0, 0), (3, .istore_n 3, 1, 0, 0), (4, .iload_n 3, 1, 0, 0), (5, .aload_n 0, 1, 0, 0), (6, .getfield 28, 3, 4, 2), (9, .getfield 103, 3, 3, 5), (12, .if_icmp .ge 40, 3, 0, 0), (15, .aload_n 0, 1, 0, 0), (16, .getfield 21, 3, 4, 1), (19, .getfield 106, 3, 1, 10), (22, .iload_n 3, 1, 0, 0), (23, .iaload, 1, 0, 0), (24, .istore 4, 2, 0, 0), (26, .iload 4, 2, 0, 0), (28, .iload_n 1, 1, 0, 0), (29, .if_icmp .ne 5, 3, 0, 0), (32, .iconst 4, 1, 0, 0), (33, .ireturn, 1, 0, 0), (34, .aload_n 0, 1, 0, 0), (35, .iload 4, 2, 0, 0), (37, .iload_n 1, 1, 0, 0), (38, .invokevirtual 109, 3, 68, 4), (41, .ifCond .eq 5, 3, 0, 0), (44, .iconst 5, 1, 0, 0), (45, .istore_n 2, 1, 0, 0), (46, .iinc 3 1, 3, 0, 0), (49, .goto (-45), 3, 0, 0), (52, .iload_n 2, 1, 0, 0), (53, .ireturn, 1, 0, 0)])
set_option maxRecDepth 100000 in
def md_70 : a_Md := (({ cls := "WeatherInsurance$Office", name := "obstacleFor", desc := "(I)I" } : Jvm.MethodName), prog_6_method_9_code, 3, (some .int), [], (2, 2, 46, 0, 0), (false, false, []), [(0, .aload_n 0, 1, 0, 0), (1, .getfield 21, 3, 4, 1), (4, .iload_n 1, 1, 0, 0), (5, .invokevirtual 97, 3, 58, 1), (8, .istore_n 2, 1, 0, 0), (9, .aload_n 0, 1, 0, 0), (10, .getfield 28, 3, 4, 2), (13, .getfield 94, 3, 3, 4), (16, .iload_n 1, 1, 0, 0), (17, .baload, 1, 0, 0), (18, .ifCond .eq 5, 3, 0, 0), (21, .iconst 1, 1, 0, 0), (22, .ireturn, 1, 0, 0), (23, .aload_n 0, 1, 0, 0), (24, .getfield 28, 3, 4, 2), (27, .getfield 42, 3, 3, 0), (30, .iload_n 2, 1, 0, 0), (31, .if_icmp .ge 5, 3, 0, 0), (34, .iconst 2, 1, 0, 0), (35, .ireturn, 1, 0, 0), (36, .aload_n 0, 1, 0, 0), (37, .getfield 28, 3, 4, 2), (40, .getfield 42, 3, 3, 0), (43, .iload_n 2, 1, 0, 0), (44, .bipush 72, 2, 0, 0), (46, .iadd, 1, 0, 0), (47, .if_icmp .le 5, 3, 0, 0), (50, .iconst 3, 1, 0, 0), (51, .ireturn, 1, 0, 0), (52, .aload_n 0, 1, 0, 0), (53, .iload_n 1, 1, 0, 0), (54, .invokevirtual 100, 3, 69, 4), (57, .ireturn, 1, 0, 0)])
set_option maxRecDepth 100000 in
def md_71 : a_Md := (({ cls := "WeatherInsurance", name := "claimObstacle", desc := "(I)I" } : Jvm.MethodName), prog_1_method_28_code, 2, (some .int), [], (2, 3, 68, 0, 0), (false, false, []), [(0, .aload_n 0, 1, 0, 0), (1, .iload_n 1, 1, 0, 0), (2, .invokevirtual 195, 3, 53, 8), (5, .aload_n 0, 1, 0, 0), (6, .getfield 54, 3, 8, 9), (9, .iload_n 1, 1, 0, 0), (10, .invokevirtual 217, 3, 70, 4), (13, .ireturn, 1, 0, 0)])
set_option maxRecDepth 100000 in
def md_72 : a_Md := (({ cls := "WeatherInsuranceLaw", name := "obstacle", desc := "(I)I" } : Jvm.MethodName), method_8_code, 4, (some .int), [], (2, 0, 0, 0, 0), (false, false, []), [(0, .aload_n 0, 1, 0, 0), (1, .getfield 25, 3, 9, 5), (4, .iload_n 1, 1, 0, 0), (5, .iaload, 1, 0, 0), (6, .aload_n 0, 1, 0, 0), (7, .getfield 28, 3, 9, 6), (10, .iload_n 1, 1, 0, 0), (11, .iaload, 1, 0, 0), (12, .iadd, 1, 0, 0), (13, .istore_n 2, 1, 0, 0), (14, .aload_n 0, 1, 0, 0), (15, .getfield 46, 3, 9, 12), (18, .iload_n 1, 1, 0, 0), (19, .baload, 1, 0, 0), (20, .ifCond .eq 5, 3, 0, 0), (23, .iconst 1, 1, 0, 0), (24, .ireturn, 1, 0, 0), (25, .aload_n 0, 1, 0, 0), (26, .getfield 99, 3, 9, 26), (29, .iload_n 2, 1, 0, 0), (30, .if_icmp .ge 5, 3, 0, 0), (33, .iconst 2, 1, 0, 0), (34, .ireturn, 1, 0, 0), (35, .aload_n 0, 1, 0, 0), (36, .getfield 99, 3, 9, 26), (39, .iload_n 2, 1, 0, 0), (40, .bipush 72, 2, 0, 0), (42, .iadd, 1, 0, 0), (43, .if_icmp .le 5, 3, 0, 0), (46, .iconst 3, 1, 0, 0), (47, .ireturn, 1, 0, 0), (48, .aload_n 0, 1, 0, 0), (49, .getfield 50, 3, 9, 13), (52, .iload_n 1, 1, 0, 0), (53, .baload, 1, 0, 0), (54, .ifCond .eq 5, 3, 0, 0), (57, .iconst 4, 1, 0, 0), (58, .ireturn, 1, 0, 0), (59, .iconst 0, 1, 0, 0), (60, .istore_n 3, 1, 0, 0), (61, .iload_n 3, 1, 0, 0), (62, .aload_n 0, 1, 0, 0), (63, .getfield 103, 3, 9, 24), (66, .if_icmp .ge 65, 3, 0, 0), (69, .aload_n 0, 1, 0, 0), (70, .getfield 50, 3, 9, 13), (73, .iload_n 3, 1, 0, 0), (74, .baload, 1, 0, 0), (75, .ifCond .eq 50, 3, 0, 0), (78, .aload_n 0, 1, 0, 0), (79, .getfield 22, 3, 9, 4), (82, .iload_n 3, 1, 0, 0), (83, .iaload, 1, 0, 0), (84, .aload_n 0, 1, 0, 0), (85, .getfield 22, 3, 9, 4), (88, .iload_n 1, 1, 0, 0), (89, .iaload, 1, 0, 0), (90, .if_icmp .ne 35, 3, 0, 0), (93, .aload_n 0, 1, 0, 0), (94, .getfield 19, 3, 9, 3), (97, .iload_n 3, 1, 0, 0), (98, .iaload, 1, 0, 0), (99, .aload_n 0, 1, 0, 0), (100, .getfield 19, 3, 9, 3), (103, .iload_n 1, 1, 0, 0), (104, .iaload, 1, 0, 0), (105, .if_icmp .ne 20, 3, 0, 0), (108, .aload_n 0, 1, 0, 0), (109, .getfield 25, 3, 9, 5), (112, .iload_n 3, 1, 0, 0), (113, .iaload, 1, 0, 0), (114, .aload_n 0, 1, 0, 0), (115, .getfield 25, 3, 9, 5), (118, .iload_n 1, 1, 0, 0), (119, .iaload, 1, 0, 0), (120, .if_icmp .ne 5, 3, 0, 0), (123, .iconst 5, 1, 0, 0), (124, .ireturn, 1, 0, 0), (125, .iinc 3 1, 3, 0, 0), (128, .goto (-67), 3, 0, 0), (131, .iconst 0, 1, 0, 0), (132, .ireturn, 1, 0, 0)])
set_option maxRecDepth 100000 in
def md_73 : a_Md := (({ cls := "WeatherInsurance", name := "requireClaim", desc := "(I)V" } : Jvm.MethodName), prog_1_method_72_code, 2, none, [], (2, 1, 21, 0, 0), (false, false, []), [(0, .iload_n 1, 1, 0, 0), (1, .aload_n 0, 1, 0, 0), (2, .getfield 71, 3, 8, 12), (5, .getfield 220, 3, 3, 5), (8, .invokestatic 365, 3, 50, 0), (11, .return_, 1, 0, 0)])
set_option maxRecDepth 100000 in
def md_74 : a_Md := (({ cls := "WeatherInsurance", name := "policyOf", desc := "(I)I" } : Jvm.MethodName), prog_1_method_30_code, 2, (some .int), [], (2, 2, 42, 0, 0), (false, false, []), [(0, .aload_n 0, 1, 0, 0), (1, .iload_n 1, 1, 0, 0), (2, .invokevirtual 223, 3, 73, 8), (5, .aload_n 0, 1, 0, 0), (6, .getfield 66, 3, 8, 11), (9, .getfield 226, 3, 1, 10), (12, .iload_n 1, 1, 0, 0), (13, .iaload, 1, 0, 0), (14, .ireturn, 1, 0, 0)])
set_option maxRecDepth 100000 in
def md_75 : a_Md := (({ cls := "WeatherInsurance", name := "assessorOf", desc := "(I)I" } : Jvm.MethodName), prog_1_method_31_code, 2, (some .int), [], (2, 2, 42, 0, 0), (false, false, []), [(0, .aload_n 0, 1, 0, 0), (1, .iload_n 1, 1, 0, 0), (2, .invokevirtual 223, 3, 73, 8), (5, .aload_n 0, 1, 0, 0), (6, .getfield 66, 3, 8, 11), (9, .getfield 229, 3, 1, 11), (12, .iload_n 1, 1, 0, 0), (13, .iaload, 1, 0, 0), (14, .ireturn, 1, 0, 0)])
set_option maxRecDepth 100000 in
def md_76 : a_Md := (({ cls := "WeatherInsurance", name := "isUndecided", desc := "(I)Z" } : Jvm.MethodName), prog_1_method_32_code, 2, (some .boolean), [], (2, 2, 42, 0, 0), (false, false, []), [(0, .aload_n 0, 1, 0, 0), (1, .iload_n 1, 1, 0, 0), (2, .invokevirtual 223, 3, 73, 8), (5, .aload_n 0, 1, 0, 0), (6, .getfield 71, 3, 8, 12), (9, .getfield 232, 3, 3, 6), (12, .iload_n 1, 1, 0, 0), (13, .iaload, 1, 0, 0), (14, .ifCond .ne 7, 3, 0, 0), (17, .iconst 1, 1, 0, 0), (18, .goto 4, 3, 0, 0), (21, .iconst 0, 1, 0, 0), (22, .ireturn, 1, 0, 0)])
set_option maxRecDepth 100000 in
def md_77 : a_Md := (({ cls := "WeatherInsurance", name := "isDenied", desc := "(I)Z" } : Jvm.MethodName), prog_1_method_33_code, 2, (some .boolean), [], (2, 2, 42, 0, 0), (false, false, []), [(0, .aload_n 0, 1, 0, 0), (1, .iload_n 1, 1, 0, 0), (2, .invokevirtual 223, 3, 73, 8), (5, .aload_n 0, 1, 0, 0), (6, .getfield 71, 3, 8, 12), (9, .getfield 232, 3, 3, 6), (12, .iload_n 1, 1, 0, 0), (13, .iaload, 1, 0, 0), (14, .iconst 1, 1, 0, 0), (15, .if_icmp .ne 7, 3, 0, 0), (18, .iconst 1, 1, 0, 0), (19, .goto 4, 3, 0, 0), (22, .iconst 0, 1, 0, 0), (23, .ireturn, 1, 0, 0)])
set_option maxRecDepth 100000 in
def md_78 : a_Md := (({ cls := "WeatherInsurance", name := "isPaid", desc := "(I)Z" } : Jvm.MethodName), prog_1_method_34_code, 2, (some .boolean), [], (2, 2, 42, 0, 0), (false, false, []), [(0, .aload_n 0, 1, 0, 0), (1, .iload_n 1, 1, 0, 0), (2, .invokevirtual 223, 3, 73, 8), (5, .aload_n 0, 1, 0, 0), (6, .getfield 71, 3, 8, 12), (9, .getfield 232, 3, 3, 6), (12, .iload_n 1, 1, 0, 0), (13, .iaload, 1, 0, 0), (14, .iconst 3, 1, 0, 0), (15, .if_icmp .ne 7, 3, 0, 0), (18, .iconst 1, 1, 0, 0), (19, .goto 4, 3, 0, 0), (22, .iconst 0, 1, 0, 0), (23, .ireturn, 1, 0, 0)])
set_option maxRecDepth 100000 in
def md_79 : a_Md := (({ cls := "WeatherInsurance", name := "grantedAmount", desc := "(I)I" } : Jvm.MethodName), prog_1_method_35_code, 2, (some .int), [], (2, 2, 42, 0, 0), (false, false, []), [(0, .aload_n 0, 1, 0, 0), (1, .iload_n 1, 1, 0, 0), (2, .invokevirtual 223, 3, 73, 8), (5, .aload_n 0, 1, 0, 0), (6, .getfield 71, 3, 8, 12), (9, .getfield 235, 3, 3, 8), (12, .iload_n 1, 1, 0, 0), (13, .iaload, 1, 0, 0), (14, .ireturn, 1, 0, 0)])
set_option maxRecDepth 100000 in
def md_80 : a_Md := (({ cls := "WeatherInsurance", name := "requireAssessor", desc := "(I)V" } : Jvm.MethodName), prog_1_method_70_code, 2, none, [], (2, 1, 21, 0, 0), (false, false, []), [(0, .iload_n 1, 1, 0, 0), (1, .aload_n 0, 1, 0, 0), (2, .getfield 61, 3, 8, 10), (5, .getfield 238, 3, 6, 4), (8, .invokestatic 365, 3, 50, 0), (11, .return_, 1, 0, 0)])
set_option maxRecDepth 100000 in
def md_81 : a_Md := (({ cls := "WeatherInsurance$Office", name := "isUndecidedAt", desc := "(II)Z" } : Jvm.MethodName), prog_6_method_15_code, 3, (some .boolean), [], (3, 0, 0, 0, 0), (false, false, []), [(0, .aload_n 0, 1, 0, 0), (1, .getfield 28, 3, 4, 2), (4, .getfield 131, 3, 3, 6), (7, .iload_n 1, 1, 0, 0), (8, .iaload, 1, 0, 0), (9, .ifCond .ne 20, 3, 0, 0), (12, .aload_n 0, 1, 0, 0), (13, .getfield 21, 3, 4, 1), (16, .getfield 119, 3, 1, 11), (19, .iload_n 1, 1, 0, 0), (20, .iaload, 1, 0, 0), (21, .iload_n 2, 1, 0, 0), (22, .if_icmp .ne 7, 3, 0, 0), (25, .iconst 1, 1, 0, 0), (26, .goto 4, 3, 0, 0), (29, .iconst 0, 1, 0, 0), (30, .ireturn, 1, 0, 0)])
set_option maxRecDepth 100000 in
def md_82 : a_Md := (({ cls := "WeatherInsurance$Office", name := "undecidedOf", desc := "(I)I" } : Jvm.MethodName), prog_6_method_14_code, 4, (some .int), [], (2, 1, 22, 0, 0), (false, false, []), [(0, .iconst 0, 1, 0, 0), (1, .istore_n 2, 1, 0, 0), (2, .iconst 0, 1, 0, 0), (3, .istore_n 3, 1, 0, 0), (4, .iload_n 3, 1, 0, 0), (5, .aload_n 0, 1, 0, 0), (6, .getfield 28, 3, 4, 2), (9, .getfield 103, 3, 3, 5), (12, .if_icmp .ge 21, 3, 0, 0), (15, .aload_n 0, 1, 0, 0), (16, .iload_n 3, 1, 0, 0), (17, .iload_n 1, 1, 0, 0), (18, .invokevirtual 128, 3, 81, 4), (21, .ifCond .eq 6, 3, 0, 0), (24, .iinc 2 1, 3, 0, 0), (27, .iinc 3 1, 3, 0, 0), (30, .goto (-26), 3, 0, 0), (33, .iload_n 2, 1, 0, 0), (34, .ireturn, 1, 0, 0)])
set_option maxRecDepth 100000 in
def md_83 : a_Md := (({ cls := "WeatherInsurance", name := "workload", desc := "(I)I" } : Jvm.MethodName), prog_1_method_38_code, 2, (some .int), [], (2, 2, 45, 0, 0), (false, false, []), [(0, .aload_n 0, 1, 0, 0), (1, .iload_n 1, 1, 0, 0), (2, .invokevirtual 241, 3, 80, 8), (5, .aload_n 0, 1, 0, 0), (6, .getfield 54, 3, 8, 9), (9, .iload_n 1, 1, 0, 0), (10, .invokevirtual 247, 3, 82, 4), (13, .ireturn, 1, 0, 0)])
set_option maxRecDepth 100000 in
def md_84 : a_Md := (({ cls := "WeatherInsurance$Office", name := "workFor", desc := "(I)I" } : Jvm.MethodName), prog_6_method_23_code, 1, (some .int), [], (1, 0, 0, 0, 0), (false, false, []), [(0, .iconst 2, 1, 0, 0), (1, .iload_n 0, 1, 0, 0), (2, .iadd, 1, 0, 0), (3, .ireturn, 1, 0, 0)])
set_option maxRecDepth 100000 in
def md_85 : a_Md := (({ cls := "WeatherInsurance$Office", name := "workUntilDecision", desc := "(I)I" } : Jvm.MethodName), prog_6_method_25_code, 6, (some .int), [], (2, 1, 22, 0, 0), (false, false, []), [(0, .aload_n 0, 1, 0, 0), (1, .getfield 28, 3, 4, 2), (4, .getfield 131, 3, 3, 6), (7, .iload_n 1, 1, 0, 0), (8, .iaload, 1, 0, 0), (9, .ifCond .eq 5, 3, 0, 0), (12, .iconst 0, 1, 0, 0), (13, .ireturn, 1, 0, 0), (14, .aload_n 0, 1, 0, 0), (15, .getfield 21, 3, 4, 1), (18, .getfield 119, 3, 1, 11), (21, .iload_n 1, 1, 0, 0), (22, .iaload, 1, 0, 0), (23, .istore_n 2, 1, 0, 0), (24, .aload_n 0, 1, 0, 0), (25, .getfield 12, 3, 4, 0), (28, .getfield 159, 3, 6, 5), (31, .iload_n 2, 1, 0, 0), (32, .iaload, 1, 0, 0), (33, .invokestatic 179, 3, 84, 0), (36, .istore_n 3, 1, 0, 0), (37, .iconst 0, 1, 0, 0), (38, .istore 4, 2, 0, 0), (40, .iconst 0, 1, 0, 0), (41, .istore 5, 2, 0, 0), (43, .iload 5, 2, 0, 0), (45, .iload_n 1, 1, 0, 0), (46, .if_icmp .gt 36, 3, 0, 0), (49, .aload_n 0, 1, 0, 0), (50, .iload 5, 2, 0, 0), (52, .iload_n 2, 1, 0, 0), (53, .invokevirtual 128, 3, 81, 4), (56, .ifCond .eq 20, 3, 0, 0), (59, .iload 4, 2, 0, 0), (61, .iload_n 3, 1, 0, 0), (62, .aload_n 0, 1, 0, 0), (63, .getfield 28, 3, 4, 2), (66, .getfield 176, 3, 3, 7), (69, .iload 5, 2, 0, 0), (71, .iaload, 1, 0, 0), (72, .isub, 1, 0, 0), (73, .iadd, 1, 0, 0), (74, .istore 4, 2, 0, 0), (76, .iinc 5 1, 3, 0, 0), (79, .goto (-36), 3, 0, 0), (82, .iload 4, 2, 0, 0), (84, .ireturn, 1, 0, 0)])
set_option maxRecDepth 100000 in
def md_86 : a_Md := (({ cls := "WeatherInsurance", name := "hoursUntilDecision", desc := "(I)I" } : Jvm.MethodName), prog_1_method_53_code, 2, (some .int), [], (2, 2, 47, 0, 0), (false, false, []), [(0, .aload_n 0, 1, 0, 0), (1, .iload_n 1, 1, 0, 0), (2, .invokevirtual 223, 3, 73, 8), (5, .aload_n 0, 1, 0, 0), (6, .getfield 54, 3, 8, 9), (9, .iload_n 1, 1, 0, 0), (10, .invokevirtual 285, 3, 85, 4), (13, .ireturn, 1, 0, 0)])
set_option maxRecDepth 100000 in
def md_87 : a_Md := (({ cls := "WeatherInsurance", name := "openPayments", desc := "()I" } : Jvm.MethodName), prog_1_method_41_code, 3, (some .int), [], (1, 0, 0, 0, 0), (false, false, []), [(0, .iconst 0, 1, 0, 0), (1, .istore_n 1, 1, 0, 0), (2, .aload_n 0, 1, 0, 0), (3, .getfield 71, 3, 8, 12), (6, .getfield 253, 3, 3, 11), (9, .istore_n 2, 1, 0, 0), (10, .iload_n 2, 1, 0, 0), (11, .aload_n 0, 1, 0, 0), (12, .getfield 71, 3, 8, 12), (15, .getfield 256, 3, 3, 10), (18, .if_icmp .ge 29, 3, 0, 0), (21, .iload_n 1, 1, 0, 0), (22, .aload_n 0, 1, 0, 0), (23, .getfield 71, 3, 8, 12), (26, .getfield 235, 3, 3, 8), (29, .aload_n 0, 1, 0, 0), (30, .getfield 71, 3, 8, 12), (33, .getfield 259, 3, 3, 9), (36, .iload_n 2, 1, 0, 0), (37, .iaload, 1, 0, 0), (38, .iaload, 1, 0, 0), (39, .iadd, 1, 0, 0), (40, .istore_n 1, 1, 0, 0), (41, .iinc 2 1, 3, 0, 0), (44, .goto (-34), 3, 0, 0), (47, .iload_n 1, 1, 0, 0), (48, .ireturn, 1, 0, 0)])
set_option maxRecDepth 100000 in
def md_88 : a_Md := (({ cls := "WeatherInsurance$Office", name := "holderOfClaim", desc := "(I)I" } : Jvm.MethodName), prog_6_method_17_code, 2, (some .int), [], (2, 0, 0, 0, 0), (false, false, []), [(0, .aload_n 0, 1, 0, 0), (1, .getfield 21, 3, 4, 1), (4, .getfield 74, 3, 1, 3), (7, .aload_n 0, 1, 0, 0), (8, .getfield 21, 3, 4, 1), (11, .getfield 106, 3, 1, 10), (14, .iload_n 1, 1, 0, 0), (15, .iaload, 1, 0, 0), (16, .iaload, 1, 0, 0), (17, .ireturn, 1, 0, 0)])
set_option maxRecDepth 100000 in
def md_89 : a_Md := (({ cls := "WeatherInsurance$Office", name := "paidTo", desc := "(I)I" } : Jvm.MethodName), prog_6_method_16_code, 5, (some .int), [], (2, 1, 21, 0, 0), (false, false, []), [(0, .iconst 0, 1, 0, 0), (1, .istore_n 2, 1, 0, 0), (2, .iconst 0, 1, 0, 0), (3, .istore_n 3, 1, 0, 0), (4, .iload_n 3, 1, 0, 0), (5, .aload_n 0, 1, 0, 0), (6, .getfield 28, 3, 4, 2), (9, .getfield 134, 3, 3, 11), (12, .if_icmp .ge 43, 3, 0, 0), (15, .aload_n 0, 1, 0, 0), (16, .getfield 28, 3, 4, 2), (19, .getfield 137, 3, 3, 9), (22, .iload_n 3, 1, 0, 0), (23, .iaload, 1, 0, 0), (24, .istore 4, 2, 0, 0), (26, .aload_n 0, 1, 0, 0), (27, .iload 4, 2, 0, 0), (29, .invokevirtual 140, 3, 88, 4), (32, .iload_n 1, 1, 0, 0), (33, .if_icmp .ne 16, 3, 0, 0), (36, .iload_n 2, 1, 0, 0), (37, .aload_n 0, 1, 0, 0), (38, .getfield 28, 3, 4, 2), (41, .getfield 143, 3, 3, 8), (44, .iload 4, 2, 0, 0), (46, .iaload, 1, 0, 0), (47, .iadd, 1, 0, 0), (48, .istore_n 2, 1, 0, 0), (49, .iinc 3 1, 3, 0, 0), (52, .goto (-48), 3, 0, 0), (55, .iload_n 2, 1, 0, 0), (56, .ireturn, 1, 0, 0)])
set_option maxRecDepth 100000 in
def md_90 : a_Md := (({ cls := "WeatherInsurance", name := "luckiestHolder", desc := "()I" } : Jvm.MethodName), prog_1_method_45_code, 5, (some .int), [], (1, 2, 45, 0, 0), (false, false, []), [(0, .iconst 0, 1, 0, 0), (1, .istore_n 1, 1, 0, 0), (2, .iconst 0, 1, 0, 0), (3, .istore_n 2, 1, 0, 0), (4, .iconst 0, 1, 0, 0), (5, .istore_n 3, 1, 0, 0), (6, .iload_n 3, 1, 0, 0), (7, .aload_n 0, 1, 0, 0), (8, .getfield 61, 3, 8, 10), (11, .getfield 125, 3, 6, 0), (14, .if_icmp .ge 30, 3, 0, 0), (17, .aload_n 0, 1, 0, 0), (18, .getfield 54, 3, 8, 9), (21, .iload_n 3, 1, 0, 0), (22, .invokevirtual 271, 3, 89, 4), (25, .istore 4, 2, 0, 0), (27, .iload 4, 2, 0, 0), (29, .iload_n 2, 1, 0, 0), (30, .if_icmp .le 8, 3, 0, 0), (33, .iload_n 3, 1, 0, 0), (34, .istore_n 1, 1, 0, 0), (35, .iload 4, 2, 0, 0), (37, .istore_n 2, 1, 0, 0), (38, .iinc 3 1, 3, 0, 0), (41, .goto (-35), 3, 0, 0), (44, .iload_n 1, 1, 0, 0), (45, .ireturn, 1, 0, 0)])
set_option maxRecDepth 100000 in
def md_91 : a_Md := (({ cls := "WeatherInsurance$Setup", name := "money", desc := "()I" } : Jvm.MethodName), prog_8_method_4_code, 3, (some .int), [], (1, 0, 0, 0, 0), (false, false, []), [(0, .aload_n 0, 1, 0, 0), (1, .getfield 38, 3, 6, 6), (4, .istore_n 1, 1, 0, 0), (5, .iconst 0, 1, 0, 0), (6, .istore_n 2, 1, 0, 0), (7, .iload_n 2, 1, 0, 0), (8, .aload_n 0, 1, 0, 0), (9, .getfield 25, 3, 6, 0), (12, .if_icmp .ge 18, 3, 0, 0), (15, .iload_n 1, 1, 0, 0), (16, .aload_n 0, 1, 0, 0), (17, .getfield 19, 3, 6, 3), (20, .iload_n 2, 1, 0, 0), (21, .iaload, 1, 0, 0), (22, .iadd, 1, 0, 0), (23, .istore_n 1, 1, 0, 0), (24, .iinc 2 1, 3, 0, 0), (27, .goto (-20), 3, 0, 0), (30, .iload_n 1, 1, 0, 0), (31, .ireturn, 1, 0, 0)])
set_option maxRecDepth 100000 in
def md_92 : a_Md := (({ cls := "WeatherInsurance$Audit", name := "moneyAddsUp", desc := "(LWeatherInsurance$Setup;LWeatherInsurance$Ledger;)Z" } : Jvm.MethodName), prog_2_method_3_code, 4, (some .boolean), [], (2, 1, 22, 0, 0), (false, false, []), [(0, .aload_n 1, 1, 0, 0), (1, .getfield 48, 3, 3, 1), (4, .istore_n 2, 1, 0, 0), (5, .iconst 0, 1, 0, 0), (6, .istore_n 3, 1, 0, 0), (7, .iload_n 3, 1, 0, 0), (8, .aload_n 0, 1, 0, 0), (9, .getfield 54, 3, 6, 0), (12, .if_icmp .ge 18, 3, 0, 0), (15, .iload_n 2, 1, 0, 0), (16, .aload_n 1, 1, 0, 0), (17, .getfield 59, 3, 3, 2), (20, .iload_n 3, 1, 0, 0), (21, .iaload, 1, 0, 0), (22, .iadd, 1, 0, 0), (23, .istore_n 2, 1, 0, 0), (24, .iinc 3 1, 3, 0, 0), (27, .goto (-20), 3, 0, 0), (30, .iload_n 2, 1, 0, 0), (31, .aload_n 0, 1, 0, 0), (32, .invokevirtual 62, 3, 91, 6), (35, .aload_n 1, 1, 0, 0), (36, .getfield 66, 3, 3, 14), (39, .iadd, 1, 0, 0), (40, .if_icmp .ne 7, 3, 0, 0), (43, .iconst 1, 1, 0, 0), (44, .goto 4, 3, 0, 0), (47, .iconst 0, 1, 0, 0), (48, .ireturn, 1, 0, 0)])
set_option maxRecDepth 100000 in
def md_93 : a_Md := (({ cls := "WeatherInsurance$Audit", name := "claimsAreSound", desc := "(LWeatherInsurance$Ledger;)Z" } : Jvm.MethodName), prog_2_method_4_code, 6, (some .boolean), [], (1, 0, 0, 0, 0), (false, false, []), [(0, .iconst 0, 1, 0, 0), (1, .istore_n 1, 1, 0, 0), (2, .iconst 0, 1, 0, 0), (3, .istore_n 2, 1, 0, 0), (4, .iconst 0, 1, 0, 0), (5, .istore_n 3, 1, 0, 0), (6, .iload_n 3, 1, 0, 0), (7, .aload_n 0, 1, 0, 0), (8, .getfield 69, 3, 3, 5), (11, .if_icmp .ge 102, 3, 0, 0), (14, .aload_n 0, 1, 0, 0), (15, .getfield 72, 3, 3, 6), (18, .iload_n 3, 1, 0, 0), (19, .iaload, 1, 0, 0), (20, .istore 4, 2, 0, 0), (22, .iload 4, 2, 0, 0), (24, .iconst 2, 1, 0, 0), (25, .if_icmp .eq 9, 3, 0, 0), (28, .iload 4, 2, 0, 0), (30, .iconst 3, 1, 0, 0), (31, .if_icmp .ne 7, 3, 0, 0), (34, .iconst 1, 1, 0, 0), (35, .goto 4, 3, 0, 0), (38, .iconst 0, 1, 0, 0), (39, .istore 5, 2, 0, 0), (41, .iload 5, 2, 0, 0), (43, .ifCond .ne 16, 3, 0, 0), (46, .iload 4, 2, 0, 0), (48, .ifCond .eq 11, 3, 0, 0), (51, .iload 4, 2, 0, 0), (53, .iconst 1, 1, 0, 0), (54, .if_icmp .eq 5, 3, 0, 0), (57, .iconst 0, 1, 0, 0), (58, .ireturn, 1, 0, 0), (59, .iload 5, 2, 0, 0), (61, .aload_n 0, 1, 0, 0), (62, .getfield 75, 3, 3, 8), (65, .iload_n 3, 1, 0, 0), (66, .iaload, 1, 0, 0), (67, .ifCond .le 7, 3, 0, 0), (70, .iconst 1, 1, 0, 0), (71, .goto 4, 3, 0, 0), (74, .iconst 0, 1, 0, 0), (75, .if_icmp .eq 5, 3, 0, 0), (78, .iconst 0, 1, 0, 0), (79, .ireturn, 1, 0, 0), (80, .iload_n 1, 1, 0, 0), (81, .iload 5, 2, 0, 0), (83, .ifCond .eq 7, 3, 0, 0), (86, .iconst 1, 1, 0, 0), (87, .goto 4, 3, 0, 0), (90, .iconst 0, 1, 0, 0), (91, .iadd, 1, 0, 0), (92, .istore_n 1, 1, 0, 0), (93, .iload_n 2, 1, 0, 0), (94, .iload 4, 2, 0, 0), (96, .iconst 3, 1, 0, 0), (97, .if_icmp .ne 7, 3, 0, 0), (100, .iconst 1, 1, 0, 0), (101, .goto 4, 3, 0, 0), (104, .iconst 0, 1, 0, 0), (105, .iadd, 1, 0, 0), (106, .istore_n 2, 1, 0, 0), (107, .iinc 3 1, 3, 0, 0), (110, .goto (-104), 3, 0, 0), (113, .iload_n 1, 1, 0, 0), (114, .aload_n 0, 1, 0, 0), (115, .getfield 78, 3, 3, 10), (118, .if_icmp .ne 15, 3, 0, 0), (121, .iload_n 2, 1, 0, 0), (122, .aload_n 0, 1, 0, 0), (123, .getfield 81, 3, 3, 11), (126, .if_icmp .ne 7, 3, 0, 0), (129, .iconst 1, 1, 0, 0), (130, .goto 4, 3, 0, 0), (133, .iconst 0, 1, 0, 0), (134, .ireturn, 1, 0, 0)])
set_option maxRecDepth 100000 in
def md_94 : a_Md := (({ cls := "WeatherInsurance$Audit", name := "claimsAreDistinct", desc := "(LWeatherInsurance$Office;)Z" } : Jvm.MethodName), prog_2_method_5_code, 3, (some .boolean), [], (1, 1, 22, 0, 0), (false, false, []), [(0, .iconst 1, 1, 0, 0), (1, .istore_n 1, 1, 0, 0), (2, .iload_n 1, 1, 0, 0), (3, .aload_n 0, 1, 0, 0), (4, .getfield 21, 3, 4, 2), (7, .getfield 69, 3, 3, 5), (10, .if_icmp .ge 49, 3, 0, 0), (13, .iconst 0, 1, 0, 0), (14, .istore_n 2, 1, 0, 0), (15, .iload_n 2, 1, 0, 0), (16, .iload_n 1, 1, 0, 0), (17, .if_icmp .ge 36, 3, 0, 0), (20, .aload_n 0, 1, 0, 0), (21, .aload_n 0, 1, 0, 0), (22, .getfield 37, 3, 4, 1), (25, .getfield 84, 3, 1, 10), (28, .iload_n 2, 1, 0, 0), (29, .iaload, 1, 0, 0), (30, .aload_n 0, 1, 0, 0), (31, .getfield 37, 3, 4, 1), (34, .getfield 84, 3, 1, 10), (37, .iload_n 1, 1, 0, 0), (38, .iaload, 1, 0, 0), (39, .invokevirtual 89, 3, 68, 4), (42, .ifCond .eq 5, 3, 0, 0), (45, .iconst 0, 1, 0, 0), (46, .ireturn, 1, 0, 0), (47, .iinc 2 1, 3, 0, 0), (50, .goto (-35), 3, 0, 0), (53, .iinc 1 1, 3, 0, 0), (56, .goto (-54), 3, 0, 0), (59, .iconst 1, 1, 0, 0), (60, .ireturn, 1, 0, 0)])
set_option maxRecDepth 100000 in
def md_95 : a_Md := (({ cls := "WeatherInsurance$Audit", name := "insert", desc := "(I)V" } : Jvm.MethodName), prog_2_method_9_code, 3, none, [], (2, 0, 0, 0, 0), (false, false, []), [(0, .aload_n 0, 1, 0, 0), (1, .getfield 114, 3, 0, 1), (4, .istore_n 2, 1, 0, 0), (5, .iload_n 2, 1, 0, 0), (6, .ifCond .le 35, 3, 0, 0), (9, .aload_n 0, 1, 0, 0), (10, .getfield 9, 3, 0, 0), (13, .iload_n 2, 1, 0, 0), (14, .iconst 1, 1, 0, 0), (15, .isub, 1, 0, 0), (16, .iaload, 1, 0, 0), (17, .iload_n 1, 1, 0, 0), (18, .if_icmp .le 23, 3, 0, 0), (21, .aload_n 0, 1, 0, 0), (22, .getfield 9, 3, 0, 0), (25, .iload_n 2, 1, 0, 0), (26, .aload_n 0, 1, 0, 0), (27, .getfield 9, 3, 0, 0), (30, .iload_n 2, 1, 0, 0), (31, .iconst 1, 1, 0, 0), (32, .isub, 1, 0, 0), (33, .iaload, 1, 0, 0), (34, .iastore, 1, 0, 0), (35, .iinc 2 (-1), 3, 0, 0), (38, .goto (-33), 3, 0, 0), (41, .aload_n 0, 1, 0, 0), (42, .getfield 9, 3, 0, 0), (45, .iload_n 2, 1, 0, 0), (46, .iload_n 1, 1, 0, 0), (47, .iastore, 1, 0, 0), (48, .aload_n 0, 1, 0, 0), (49, .dup, 1, 0, 0), (50, .getfield 114, 3, 0, 1), (53, .iconst 1, 1, 0, 0), (54, .iadd, 1, 0, 0), (55, .putfield 114, 3, 0, 1), (58, .return_, 1, 0, 0)])
set_option maxRecDepth 100000 in
def md_96 : a_Md := (({ cls := "WeatherInsurance$Audit", name := "sumOfSorted", desc := "()I" } : Jvm.MethodName), prog_2_method_11_code, 3, (some .int), [], (1, 0, 0, 0, 0), (false, false, []), [(0, .iconst 0, 1, 0, 0), (1, .istore_n 1, 1, 0, 0), (2, .iconst 0, 1, 0, 0), (3, .istore_n 2, 1, 0, 0), (4, .iload_n 2, 1, 0, 0), (5, .aload_n 0, 1, 0, 0), (6, .getfield 114, 3, 0, 1), (9, .if_icmp .ge 18, 3, 0, 0), (12, .iload_n 1, 1, 0, 0), (13, .aload_n 0, 1, 0, 0), (14, .getfield 9, 3, 0, 0), (17, .iload_n 2, 1, 0, 0), (18, .iaload, 1, 0, 0), (19, .iadd, 1, 0, 0), (20, .istore_n 1, 1, 0, 0), (21, .iinc 2 1, 3, 0, 0), (24, .goto (-20), 3, 0, 0), (27, .iload_n 1, 1, 0, 0), (28, .ireturn, 1, 0, 0)])
set_option maxRecDepth 100000 in
def md_97 : a_Md := (({ cls := "WeatherInsurance$Audit", name := "countBelow", desc := "(I)I" } : Jvm.MethodName), prog_2_method_10_code, 3, (some .int), [], (2, 0, 0, 0, 0), (false, false, []), [(0, .iconst 0, 1, 0, 0), (1, .istore_n 2, 1, 0, 0), (2, .iload_n 2, 1, 0, 0), (3, .aload_n 0, 1, 0, 0), (4, .getfield 114, 3, 0, 1), (7, .if_icmp .ge 19, 3, 0, 0), (10, .aload_n 0, 1, 0, 0), (11, .getfield 9, 3, 0, 0), (14, .iload_n 2, 1, 0, 0), (15, .iaload, 1, 0, 0), (16, .iload_n 1, 1, 0, 0), (17, .if_icmp .ge 9, 3, 0, 0), (20, .iinc 2 1, 3, 0, 0), (23, .goto (-21), 3, 0, 0), (26, .iload_n 2, 1, 0, 0), (27, .ireturn, 1, 0, 0)])
set_option maxRecDepth 100000 in
def md_98 : a_Md := (({ cls := "WeatherInsurance$Audit", name := "damageBySorting", desc := "(LWeatherInsurance$Book;II)I" } : Jvm.MethodName), prog_2_method_8_code, 7, (some .int), [], (4, 2, 53, 0, 0), (false, false, []), [(0, .aload_n 0, 1, 0, 0), (1, .iconst 0, 1, 0, 0), (2, .putfield 114, 3, 0, 1), (5, .iload_n 3, 1, 0, 0), (6, .aload_n 1, 1, 0, 0), (7, .iload_n 2, 1, 0, 0), (8, .invokevirtual 117, 3, 58, 1), (11, .invokestatic 120, 3, 1001, 0), (14, .istore 4, 2, 0, 0), (16, .aload_n 1, 1, 0, 0), (17, .getfield 125, 3, 1, 4), (20, .iload_n 2, 1, 0, 0), (21, .iaload, 1, 0, 0), (22, .istore 5, 2, 0, 0), (24, .iload 5, 2, 0, 0), (26, .iload 4, 2, 0, 0), (28, .if_icmp .ge 48, 3, 0, 0), (31, .aload_n 0, 1, 0, 0), (32, .getfield 114, 3, 0, 1), (35, .bipush 24, 2, 0, 0), (37, .if_icmp .ge 39, 3, 0, 0), (40, .aload_n 0, 1, 0, 0), (41, .aload_n 1, 1, 0, 0), (42, .getfield 128, 3, 1, 2), (45, .iload_n 2, 1, 0, 0), (46, .baload, 1, 0, 0), (47, .ifCond .eq 13, 3, 0, 0), (50, .aload_n 1, 1, 0, 0), (51, .getfield 132, 3, 1, 0), (54, .iload 5, 2, 0, 0), (56, .iaload, 1, 0, 0), (57, .goto 10, 3, 0, 0), (60, .aload_n 1, 1, 0, 0), (61, .getfield 135, 3, 1, 1), (64, .iload 5, 2, 0, 0), (66, .iaload, 1, 0, 0), (67, .invokevirtual 138, 3, 95, 0), (70, .iinc 5 1, 3, 0, 0), (73, .goto (-49), 3, 0, 0), (76, .aload_n 1, 1, 0, 0), (77, .getfield 128, 3, 1, 2), (80, .iload_n 2, 1, 0, 0), (81, .baload, 1, 0, 0), (82, .ifCond .ne 13, 3, 0, 0), (85, .aload_n 1, 1, 0, 0), (86, .iload_n 2, 1, 0, 0), (87, .aload_n 0, 1, 0, 0), (88, .invokevirtual 142, 3, 96, 0), (91, .invokevirtual 145, 3, 64, 1), (94, .ireturn, 1, 0, 0), (95, .aload_n 0, 1, 0, 0), (96, .aload_n 1, 1, 0, 0), (97, .getfield 148, 3, 1, 7), (100, .iload_n 2, 1, 0, 0), (101, .iaload, 1, 0, 0), (102, .invokevirtual 151, 3, 97, 0), (105, .istore 5, 2, 0, 0), (107, .aload_n 0, 1, 0, 0), (108, .getfield 114, 3, 0, 1), (111, .aload_n 0, 1, 0, 0), (112, .aload_n 1, 1, 0, 0), (113, .getfield 154, 3, 1, 8), (116, .iload_n 2, 1, 0, 0), (117, .iaload, 1, 0, 0), (118, .iconst 1, 1, 0, 0), (119, .iadd, 1, 0, 0), (120, .invokevirtual 151, 3, 97, 0), (123, .isub, 1, 0, 0), (124, .istore 6, 2, 0, 0), (126, .aload_n 1, 1, 0, 0), (127, .iload_n 2, 1, 0, 0), (128, .iload 5, 2, 0, 0), (130, .iload 6, 2, 0, 0), (132, .iadd, 1, 0, 0), (133, .invokevirtual 157, 3, 63, 1), (136, .ireturn, 1, 0, 0)])
set_option maxRecDepth 100000 in
def md_99 : a_Md := (({ cls := "WeatherInsurance$Audit", name := "damagesAgree", desc := "(LWeatherInsurance$Book;LWeatherInsurance$Ledger;)Z" } : Jvm.MethodName), prog_2_method_7_code, 4, (some .boolean), [], (3, 3, 79, 0, 0), (false, false, []), [(0, .iconst 0, 1, 0, 0), (1, .istore_n 3, 1, 0, 0), (2, .iload_n 3, 1, 0, 0), (3, .aload_n 2, 1, 0, 0), (4, .getfield 100, 3, 3, 3), (7, .if_icmp .ge 33, 3, 0, 0), (10, .aload_n 0, 1, 0, 0), (11, .aload_n 1, 1, 0, 0), (12, .iload_n 3, 1, 0, 0), (13, .aload_n 2, 1, 0, 0), (14, .getfield 103, 3, 3, 0), (17, .invokevirtual 106, 3, 98, 0), (20, .aload_n 1, 1, 0, 0), (21, .iload_n 3, 1, 0, 0), (22, .aload_n 2, 1, 0, 0), (23, .getfield 103, 3, 3, 0), (26, .invokevirtual 110, 3, 65, 1), (29, .if_icmp .eq 5, 3, 0, 0), (32, .iconst 0, 1, 0, 0), (33, .ireturn, 1, 0, 0), (34, .iinc 3 1, 3, 0, 0), (37, .goto (-35), 3, 0, 0), (40, .iconst 1, 1, 0, 0), (41, .ireturn, 1, 0, 0)])
set_option maxRecDepth 100000 in
def md_100 : a_Md := (({ cls := "WeatherInsurance$Audit", name := "paymentsAddUp", desc := "(LWeatherInsurance$Office;)Z" } : Jvm.MethodName), prog_2_method_6_code, 3, (some .boolean), [], (1, 2, 45, 0, 0), (false, false, []), [(0, .iconst 0, 1, 0, 0), (1, .istore_n 1, 1, 0, 0), (2, .iconst 0, 1, 0, 0), (3, .istore_n 2, 1, 0, 0), (4, .iload_n 2, 1, 0, 0), (5, .aload_n 0, 1, 0, 0), (6, .getfield 15, 3, 4, 0), (9, .getfield 54, 3, 6, 0), (12, .if_icmp .ge 17, 3, 0, 0), (15, .iload_n 1, 1, 0, 0), (16, .aload_n 0, 1, 0, 0), (17, .iload_n 2, 1, 0, 0), (18, .invokevirtual 93, 3, 89, 4), (21, .iadd, 1, 0, 0), (22, .istore_n 1, 1, 0, 0), (23, .iinc 2 1, 3, 0, 0), (26, .goto (-22), 3, 0, 0), (29, .iload_n 1, 1, 0, 0), (30, .aload_n 0, 1, 0, 0), (31, .getfield 21, 3, 4, 2), (34, .getfield 97, 3, 3, 13), (37, .if_icmp .ne 7, 3, 0, 0), (40, .iconst 1, 1, 0, 0), (41, .goto 4, 3, 0, 0), (44, .iconst 0, 1, 0, 0), (45, .ireturn, 1, 0, 0)])
set_option maxRecDepth 100000 in
def md_101 : a_Md := (({ cls := "WeatherInsurance$Audit", name := "passes", desc := "(LWeatherInsurance$Office;)Z" } : Jvm.MethodName), prog_2_method_2_code, 2, (some .boolean), [], (2, 4, 102, 0, 0), (false, false, []), [(0, .aload_n 1, 1, 0, 0), (1, .getfield 15, 3, 4, 0), (4, .aload_n 1, 1, 0, 0), (5, .getfield 21, 3, 4, 2), (8, .invokestatic 25, 3, 92, 0), (11, .ifCond .eq 46, 3, 0, 0), (14, .aload_n 1, 1, 0, 0), (15, .getfield 21, 3, 4, 2), (18, .invokestatic 29, 3, 93, 0), (21, .ifCond .eq 36, 3, 0, 0), (24, .aload_n 1, 1, 0, 0), (25, .invokestatic 33, 3, 94, 0), (28, .ifCond .eq 29, 3, 0, 0), (31, .aload_n 0, 1, 0, 0), (32, .aload_n 1, 1, 0, 0), (33, .getfield 37, 3, 4, 1), (36, .aload_n 1, 1, 0, 0), (37, .getfield 21, 3, 4, 2), (40, .invokevirtual 41, 3, 99, 0), (43, .ifCond .eq 14, 3, 0, 0), (46, .aload_n 1, 1, 0, 0), (47, .invokestatic 45, 3, 100, 0), (50, .ifCond .eq 7, 3, 0, 0), (53, .iconst 1, 1, 0, 0), (54, .goto 4, 3, 0, 0), (57, .iconst 0, 1, 0, 0), (58, .ireturn, 1, 0, 0)])
set_option maxRecDepth 100000 in
def md_102 : a_Md := (({ cls := "WeatherInsurance", name := "isConsistent", desc := "()Z" } : Jvm.MethodName), prog_1_method_55_code, 1, (some .boolean), [], (1, 5, 123, 0, 0), (false, false, []), [(0, .aload_n 0, 1, 0, 0), (1, .getfield 40, 3, 8, 7), (4, .aload_n 0, 1, 0, 0), (5, .getfield 54, 3, 8, 9), (8, .invokevirtual 291, 3, 101, 0), (11, .ireturn, 1, 0, 0)])
set_option maxRecDepth 100000 in
def md_103 : a_Md := (({ cls := "WeatherInsuranceLaw", name := "isLike", desc := "(LWeatherInsurance;)Z" } : Jvm.MethodName), method_12_code, 6, (some .boolean), [], (2, 6, 143, 0, 0), (false, false, []), [(0, .aload_n 1, 1, 0, 0), (1, .invokevirtual 182, 3, 42, 8), (4, .aload_n 0, 1, 0, 0), (5, .getfield 99, 3, 9, 26), (8, .if_icmp .ne 93, 3, 0, 0), (11, .aload_n 1, 1, 0, 0), (12, .invokevirtual 184, 3, 43, 8), (15, .aload_n 0, 1, 0, 0), (16, .getfield 109, 3, 9, 27), (19, .if_icmp .ne 82, 3, 0, 0), (22, .aload_n 1, 1, 0, 0), (23, .invokevirtual 164, 3, 44, 8), (26, .aload_n 0, 1, 0, 0), (27, .getfield 103, 3, 9, 24), (30, .if_icmp .ne 71, 3, 0, 0), (33, .aload_n 1, 1, 0, 0), (34, .invokevirtual 186, 3, 45, 8), (37, .aload_n 0, 1, 0, 0), (38, .getfield 131, 3, 9, 25), (41, .if_icmp .ne 60, 3, 0, 0), (44, .aload_n 1, 1, 0, 0), (45, .invokevirtual 189, 3, 46, 8), (48, .aload_n 0, 1, 0, 0), (49, .getfield 112, 3, 9, 28), (52, .if_icmp .ne 49, 3, 0, 0), (55, .aload_n 1, 1, 0, 0), (56, .invokevirtual 192, 3, 47, 8), (59, .aload_n 0, 1, 0, 0), (60, .getfield 128, 3, 9, 29), (63, .if_icmp .ne 38, 3, 0, 0), (66, .aload_n 1, 1, 0, 0), (67, .invokevirtual 195, 3, 48, 8), (70, .aload_n 0, 1, 0, 0), (71, .getfield 176, 3, 9, 30), (74, .if_icmp .ne 27, 3, 0, 0), (77, .aload_n 1, 1, 0, 0), (78, .invokevirtual 198, 3, 49, 8), (81, .aload_n 0, 1, 0, 0), (82, .getfield 125, 3, 9, 31), (85, .ifCond .ne 7, 3, 0, 0), (88, .iconst (-1), 1, 0, 0), (89, .goto 9, 3, 0, 0), (92, .aload_n 0, 1, 0, 0), (93, .getfield 76, 3, 9, 21), (96, .iconst 0, 1, 0, 0), (97, .iaload, 1, 0, 0), (98, .if_icmp .eq 5, 3, 0, 0), (101, .iconst 0, 1, 0, 0), (102, .ireturn, 1, 0, 0), (103, .iconst 0, 1, 0, 0), (104, .istore_n 2, 1, 0, 0), (105, .iconst 0, 1, 0, 0), (106, .istore_n 3, 1, 0, 0), (107, .iload_n 3, 1, 0, 0), (108, .aload_n 0, 1, 0, 0), (109, .getfield 150, 3, 9, 22), (112, .if_icmp .ge 42, 3, 0, 0), (115, .aload_n 1, 1, 0, 0), (116, .iload_n 3, 1, 0, 0), (117, .invokevirtual 201, 3, 52, 8), (120, .aload_n 0, 1, 0, 0), (121, .getfield 7, 3, 9, 0), (124, .iload_n 3, 1, 0, 0), (125, .iaload, 1, 0, 0), (126, .if_icmp .eq 5, 3, 0, 0), (129, .iconst 0, 1, 0, 0), (130, .ireturn, 1, 0, 0), (131, .aload_n 0, 1, 0, 0), (132, .getfield 13, 3, 9, 1), (135, .iload_n 3, 1, 0, 0), (136, .iaload, 1, 0, 0), (137, .aload_n 0, 1, 0, 0), (138, .getfield 13, 3, 9, 1), (141, .iload_n 2, 1, 0, 0), (142, .iaload, 1, 0, 0), (143, .if_icmp .le 5, 3, 0, 0), (146, .iload_n 3, 1, 0, 0), (147, .istore_n 2, 1, 0, 0), (148, .iinc 3 1, 3, 0, 0), (151, .goto (-44), 3, 0, 0), (154, .iconst 0, 1, 0, 0), (155, .istore_n 3, 1, 0, 0), (156, .iload_n 3, 1, 0, 0), (157, .aload_n 0, 1, 0, 0), (158, .getfield 103, 3, 9, 24), (161, .if_icmp .ge 78, 3, 0, 0), (164, .aload_n 1, 1, 0, 0), (165, .iload_n 3, 1, 0, 0), (166, .invokevirtual 203, 3, 57, 8), (169, .aload_n 0, 1, 0, 0), (170, .getfield 40, 3, 9, 10), (173, .iload_n 3, 1, 0, 0), (174, .iaload, 1, 0, 0), (175, .if_icmp .ne 56, 3, 0, 0), (178, .aload_n 1, 1, 0, 0), (179, .iload_n 3, 1, 0, 0), (180, .invokevirtual 205, 3, 60, 8), (183, .aload_n 0, 1, 0, 0), (184, .iload_n 3, 1, 0, 0), (185, .invokevirtual 106, 3, 61, 9), (188, .if_icmp .ne 43, 3, 0, 0), (191, .aload_n 1, 1, 0, 0), (192, .iload_n 3, 1, 0, 0), (193, .invokevirtual 206, 3, 62, 8), (196, .aload_n 0, 1, 0, 0), (197, .getfield 46, 3, 9, 12), (200, .iload_n 3, 1, 0, 0), (201, .baload, 1, 0, 0), (202, .if_icmp .ne 29, 3, 0, 0), (205, .aload_n 1, 1, 0, 0), (206, .iload_n 3, 1, 0, 0), (207, .invokevirtual 209, 3, 66, 8), (210, .aload_n 0, 1, 0, 0), (211, .iload_n 3, 1, 0, 0), (212, .invokevirtual 121, 3, 67, 9), (215, .if_icmp .ne 16, 3, 0, 0), (218, .aload_n 1, 1, 0, 0), (219, .iload_n 3, 1, 0, 0), (220, .invokevirtual 167, 3, 71, 8), (223, .aload_n 0, 1, 0, 0), (224, .iload_n 3, 1, 0, 0), (225, .invokevirtual 170, 3, 72, 9), (228, .if_icmp .eq 5, 3, 0, 0), (231, .iconst 0, 1, 0, 0), (232, .ireturn, 1, 0, 0), (233, .iinc 3 1, 3, 0, 0), (236, .goto (-80), 3, 0, 0), (239, .iconst 0, 1, 0, 0), (240, .istore_n 3, 1, 0, 0), (241, .iconst 0, 1, 0, 0), (242, .istore 4, 2, 0, 0), (244, .iload 4, 2, 0, 0), (246, .aload_n 0, 1, 0, 0), (247, .getfield 131, 3, 9, 25), (250, .if_icmp .ge 154, 3, 0, 0), (253, .aload_n 1, 1, 0, 0), (254, .iload 4, 2, 0, 0), (256, .invokevirtual 210, 3, 74, 8), (259, .aload_n 0, 1, 0, 0), (260, .getfield 53, 3, 9, 14), (263, .iload 4, 2, 0, 0), (265, .iaload, 1, 0, 0), (266, .if_icmp .ne 109, 3, 0, 0), (269, .aload_n 1, 1, 0, 0), (270, .iload 4, 2, 0, 0), (272, .invokevirtual 213, 3, 75, 8), (275, .aload_n 0, 1, 0, 0), (276, .getfield 56, 3, 9, 15), (279, .iload 4, 2, 0, 0), (281, .iaload, 1, 0, 0), (282, .if_icmp .ne 93, 3, 0, 0), (285, .aload_n 1, 1, 0, 0), (286, .iload 4, 2, 0, 0), (288, .invokevirtual 216, 3, 76, 8), (291, .aload_n 0, 1, 0, 0), (292, .getfield 59, 3, 9, 16), (295, .iload 4, 2, 0, 0), (297, .iaload, 1, 0, 0), (298, .ifCond .ne 7, 3, 0, 0), (301, .iconst 1, 1, 0, 0), (302, .goto 4, 3, 0, 0), (305, .iconst 0, 1, 0, 0), (306, .if_icmp .ne 69, 3, 0, 0), (309, .aload_n 1, 1, 0, 0), (310, .iload 4, 2, 0, 0), (312, .invokevirtual 219, 3, 77, 8), (315, .aload_n 0, 1, 0, 0), (316, .getfield 59, 3, 9, 16), (319, .iload 4, 2, 0, 0), (321, .iaload, 1, 0, 0), (322, .iconst 1, 1, 0, 0), (323, .if_icmp .ne 7, 3, 0, 0), (326, .iconst 1, 1, 0, 0), (327, .goto 4, 3, 0, 0), (330, .iconst 0, 1, 0, 0), (331, .if_icmp .ne 44, 3, 0, 0), (334, .aload_n 1, 1, 0, 0), (335, .iload 4, 2, 0, 0), (337, .invokevirtual 222, 3, 78, 8), (340, .aload_n 0, 1, 0, 0), (341, .getfield 59, 3, 9, 16), (344, .iload 4, 2, 0, 0), (346, .iaload, 1, 0, 0), (347, .iconst 3, 1, 0, 0), (348, .if_icmp .ne 7, 3, 0, 0), (351, .iconst 1, 1, 0, 0), (352, .goto 4, 3, 0, 0), (355, .iconst 0, 1, 0, 0), (356, .if_icmp .ne 19, 3, 0, 0), (359, .aload_n 1, 1, 0, 0), (360, .iload 4, 2, 0, 0), (362, .invokevirtual 225, 3, 79, 8), (365, .aload_n 0, 1, 0, 0), (366, .getfield 62, 3, 9, 17), (369, .iload 4, 2, 0, 0), (371, .iaload, 1, 0, 0), (372, .if_icmp .eq 5, 3, 0, 0), (375, .iconst 0, 1, 0, 0), (376, .ireturn, 1, 0, 0), (377, .aload_n 0, 1, 0, 0), (378, .getfield 59, 3, 9, 16), (381, .iload 4, 2, 0, 0), (383, .iaload, 1, 0, 0), (384, .iconst 2, 1, 0, 0), (385, .if_icmp .ne 13, 3, 0, 0), (388, .iload_n 3, 1, 0, 0), (389, .aload_n 0, 1, 0, 0), (390, .getfield 62, 3, 9, 17), (393, .iload 4, 2, 0, 0), (395, .iaload, 1, 0, 0), (396, .iadd, 1, 0, 0), (397, .istore_n 3, 1, 0, 0), (398, .iinc 4 1, 3, 0, 0), (401, .goto (-157), 3, 0, 0), (404, .iconst 0, 1, 0, 0), (405, .istore 4, 2, 0, 0), (407, .iload 4, 2, 0, 0), (409, .aload_n 0, 1, 0, 0), (410, .getfield 118, 3, 9, 23), (413, .if_icmp .ge 89, 3, 0, 0), (416, .aload_n 1, 1, 0, 0), (417, .iload 4, 2, 0, 0), (419, .invokevirtual 228, 3, 83, 8), (422, .aload_n 0, 1, 0, 0), (423, .getfield 70, 3, 9, 19), (426, .iload 4, 2, 0, 0), (428, .iaload, 1, 0, 0), (429, .if_icmp .eq 5, 3, 0, 0), (432, .iconst 0, 1, 0, 0), (433, .ireturn, 1, 0, 0), (434, .iconst 0, 1, 0, 0), (435, .istore 5, 2, 0, 0), (437, .iload 5, 2, 0, 0), (439, .aload_n 0, 1, 0, 0), (440, .getfield 70, 3, 9, 19), (443, .iload 4, 2, 0, 0), (445, .iaload, 1, 0, 0), (446, .if_icmp .ge 50, 3, 0, 0), (449, .aload_n 1, 1, 0, 0), (450, .aload_n 0, 1, 0, 0), (451, .getfield 67, 3, 9, 18), (454, .iload 4, 2, 0, 0), (456, .aaload, 1, 0, 0), (457, .iload 5, 2, 0, 0), (459, .iaload, 1, 0, 0), (460, .invokevirtual 231, 3, 86, 8), (463, .iload 5, 2, 0, 0), (465, .iconst 1, 1, 0, 0), (466, .iadd, 1, 0, 0), (467, .iconst 2, 1, 0, 0), (468, .aload_n 0, 1, 0, 0), (469, .getfield 16, 3, 9, 2), (472, .iload 4, 2, 0, 0), (474, .iaload, 1, 0, 0), (475, .iadd, 1, 0, 0), (476, .imul, 1, 0, 0), (477, .aload_n 0, 1, 0, 0), (478, .getfield 73, 3, 9, 20), (481, .iload 4, 2, 0, 0), (483, .iaload, 1, 0, 0), (484, .isub, 1, 0, 0), (485, .if_icmp .eq 5, 3, 0, 0), (488, .iconst 0, 1, 0, 0), (489, .ireturn, 1, 0, 0), (490, .iinc 5 1, 3, 0, 0), (493, .goto (-56), 3, 0, 0), (496, .iinc 4 1, 3, 0, 0), (499, .goto (-92), 3, 0, 0), (502, .aload_n 1, 1, 0, 0), (503, .invokevirtual 234, 3, 87, 8), (506, .iload_n 3, 1, 0, 0), (507, .if_icmp .ne 22, 3, 0, 0), (510, .aload_n 1, 1, 0, 0), (511, .invokevirtual 237, 3, 90, 8), (514, .iload_n 2, 1, 0, 0), (515, .if_icmp .ne 14, 3, 0, 0), (518, .aload_n 1, 1, 0, 0), (519, .invokevirtual 240, 3, 102, 8), (522, .ifCond .eq 7, 3, 0, 0), (525, .iconst 1, 1, 0, 0), (526, .goto 4, 3, 0, 0), (529, .iconst 0, 1, 0, 0), (530, .ireturn, 1, 0, 0)])
end
section
/-! The methods of the program, as tables. -/
set_option maxRecDepth 100000 in
def md_104 : a_Md := (({ cls := "WeatherInsurance", name := "requireRange", desc := "(III)V" } : Jvm.MethodName), prog_1_method_75_code, 3, none, [], (3, 0, 0, 0, 0), (false, false, []), [(0, .iload_n 0, 1, 0, 0), (1, .iload_n 1, 1, 0, 0), (2, .if_icmp .lt 8, 3, 0, 0), (5, .iload_n 0, 1, 0, 0), (6, .iload_n 2, 1, 0, 0), (7, .if_icmp .le 14, 3, 0, 0), (21, .return_, 1, 0, 0)])
set_option maxRecDepth 100000 in
def md_105 : a_Md := (({ cls := "WeatherInsurance$Office", name := "canPass", desc := "(I)Z" } : Jvm.MethodName), prog_6_method_3_code, 2, (some .boolean), [], (2, 0, 0, 0, 0), (false, false, []), [(0, .aload_n 0, 1, 0, 0), (1, .getfield 28, 3, 4, 2), (4, .getfield 42, 3, 3, 0), (7, .iload_n 1, 1, 0, 0), (8, .iadd, 1, 0, 0), (9, .sipush 1000, 3, 0, 0), (12, .if_icmp .gt 7, 3, 0, 0), (15, .iconst 1, 1, 0, 0), (16, .goto 4, 3, 0, 0), (19, .iconst 0, 1, 0, 0), (20, .ireturn, 1, 0, 0)])
set_option maxRecDepth 100000 in
def md_106 : a_Md := (({ cls := "WeatherInsurance$Ledger", name := "copyFrom", desc := "(LWeatherInsurance$Ledger;)V" } : Jvm.MethodName), prog_5_method_2_code, 3, none, [], (2, 1, 30, 0, 0), (false, false, []), [(0, .aload_n 0, 1, 0, 0), (1, .aload_n 1, 1, 0, 0), (2, .getfield 31, 3, 3, 0), (5, .putfield 31, 3, 3, 0), (8, .aload_n 0, 1, 0, 0), (9, .aload_n 1, 1, 0, 0), (10, .getfield 35, 3, 3, 1), (13, .putfield 35, 3, 3, 1), (16, .aload_n 1, 1, 0, 0), (17, .getfield 9, 3, 3, 2), (20, .iconst 0, 1, 0, 0), (21, .aload_n 0, 1, 0, 0), (22, .getfield 9, 3, 3, 2), (25, .iconst 0, 1, 0, 0), (26, .bipush 8, 2, 0, 0), (28, .invokestatic 38, 3, 1003, 0), (31, .aload_n 0, 1, 0, 0), (32, .aload_n 1, 1, 0, 0), (33, .getfield 44, 3, 3, 3), (36, .putfield 44, 3, 3, 3), (39, .iconst 0, 1, 0, 0), (40, .istore_n 2, 1, 0, 0), (41, .iload_n 2, 1, 0, 0), (42, .bipush 20, 2, 0, 0), (44, .if_icmp .ge 21, 3, 0, 0), (47, .aload_n 0, 1, 0, 0), (48, .getfield 15, 3, 3, 4), (51, .iload_n 2, 1, 0, 0), (52, .aload_n 1, 1, 0, 0), (53, .getfield 15, 3, 3, 4), (56, .iload_n 2, 1, 0, 0), (57, .baload, 1, 0, 0), (58, .bastore, 1, 0, 0), (59, .iinc 2 1, 3, 0, 0), (62, .goto (-21), 3, 0, 0), (65, .aload_n 0, 1, 0, 0), (66, .aload_n 1, 1, 0, 0), (67, .getfield 47, 3, 3, 5), (70, .putfield 47, 3, 3, 5), (73, .aload_n 1, 1, 0, 0), (74, .getfield 19, 3, 3, 6), (77, .iconst 0, 1, 0, 0), (78, .aload_n 0, 1, 0, 0), (79, .getfield 19, 3, 3, 6), (82, .iconst 0, 1, 0, 0), (83, .bipush 20, 2, 0, 0), (85, .invokestatic 38, 3, 1003, 0), (88, .aload_n 1, 1, 0, 0), (89, .getfield 22, 3, 3, 7), (92, .iconst 0, 1, 0, 0), (93, .aload_n 0, 1, 0, 0), (94, .getfield 22, 3, 3, 7), (97, .iconst 0, 1, 0, 0), (98, .bipush 20, 2, 0, 0), (100, .invokestatic 38, 3, 1003, 0), (103, .aload_n 1, 1, 0, 0), (104, .getfield 25, 3, 3, 8), (107, .iconst 0, 1, 0, 0), (108, .aload_n 0, 1, 0, 0), (109, .getfield 25, 3, 3, 8), (112, .iconst 0, 1, 0, 0), (113, .bipush 20, 2, 0, 0), (115, .invokestatic 38, 3, 1003, 0), (118, .aload_n 1, 1, 0, 0), (119, .getfield 28, 3, 3, 9), (122, .iconst 0, 1, 0, 0), (123, .aload_n 0, 1, 0, 0), (124, .getfield 28, 3, 3, 9), (127, .iconst 0, 1, 0, 0), (128, .bipush 20, 2, 0, 0), (130, .invokestatic 38, 3, 1003, 0), (133, .aload_n 0, 1, 0, 0), (134, .aload_n 1, 1, 0, 0), (135, .getfield 50, 3, 3, 10), (138, .putfield 50, 3, 3, 10), (141, .aload_n 0, 1, 0, 0), (142, .aload_n 1, 1, 0, 0), (143, .getfield 53, 3, 3, 11), (146, .putfield 53, 3, 3, 11), (149, .aload_n 0, 1, 0, 0), (150, .aload_n 1, 1, 0, 0), (151, .getfield 56, 3, 3, 12), (154, .putfield 56, 3, 3, 12), (157, .aload_n 0, 1, 0, 0), (158, .aload_n 1, 1, 0, 0), (159, .getfield 59, 3, 3, 13), (162, .putfield 59, 3, 3, 13), (165, .aload_n 0, 1, 0, 0), (166, .aload_n 1, 1, 0, 0), (167, .getfield 62, 3, 3, 14), (170, .putfield 62, 3, 3, 14), (173, .return_, 1, 0, 0)])
set_option maxRecDepth 100000 in
def md_107 : a_Md := (({ cls := "WeatherInsurance$History", name := "keep", desc := "(LWeatherInsurance$Ledger;)V" } : Jvm.MethodName), prog_4_method_4_code, 2, none, [], (2, 2, 52, 0, 0), (false, false, []), [(0, .aload_n 0, 1, 0, 0), (1, .getfield 11, 3, 2, 0), (4, .aload_n 0, 1, 0, 0), (5, .getfield 22, 3, 2, 1), (8, .aload_n 0, 1, 0, 0), (9, .getfield 18, 3, 2, 2), (12, .iadd, 1, 0, 0), (13, .bipush 8, 2, 0, 0), (15, .irem, 1, 0, 0), (16, .aaload, 1, 0, 0), (17, .aload_n 1, 1, 0, 0), (18, .invokevirtual 25, 3, 106, 3), (21, .aload_n 0, 1, 0, 0), (22, .getfield 18, 3, 2, 2), (25, .bipush 8, 2, 0, 0), (27, .if_icmp .ge 16, 3, 0, 0), (30, .aload_n 0, 1, 0, 0), (31, .dup, 1, 0, 0), (32, .getfield 18, 3, 2, 2), (35, .iconst 1, 1, 0, 0), (36, .iadd, 1, 0, 0), (37, .putfield 18, 3, 2, 2), (40, .goto 16, 3, 0, 0), (43, .aload_n 0, 1, 0, 0), (44, .aload_n 0, 1, 0, 0), (45, .getfield 22, 3, 2, 1), (48, .iconst 1, 1, 0, 0), (49, .iadd, 1, 0, 0), (50, .bipush 8, 2, 0, 0), (52, .irem, 1, 0, 0), (53, .putfield 22, 3, 2, 1), (56, .return_, 1, 0, 0)])
set_option maxRecDepth 100000 in
def md_108 : a_Md := (({ cls := "WeatherInsurance$Ledger", name := "takePremium", desc := "(II)V" } : Jvm.MethodName), prog_5_method_5_code, 3, none, [], (3, 0, 0, 0, 0), (false, false, []), [(0, .aload_n 0, 1, 0, 0), (1, .getfield 9, 3, 3, 2), (4, .iload_n 1, 1, 0, 0), (5, .dup2, 1, 0, 0), (6, .iaload, 1, 0, 0), (7, .iload_n 2, 1, 0, 0), (8, .isub, 1, 0, 0), (9, .iastore, 1, 0, 0), (10, .aload_n 0, 1, 0, 0), (11, .dup, 1, 0, 0), (12, .getfield 35, 3, 3, 1), (15, .iload_n 2, 1, 0, 0), (16, .iadd, 1, 0, 0), (17, .putfield 35, 3, 3, 1), (20, .aload_n 0, 1, 0, 0), (21, .dup, 1, 0, 0), (22, .getfield 56, 3, 3, 12), (25, .iload_n 2, 1, 0, 0), (26, .iadd, 1, 0, 0), (27, .putfield 56, 3, 3, 12), (30, .return_, 1, 0, 0)])
set_option maxRecDepth 100000 in
def md_109 : a_Md := (({ cls := "WeatherInsurance$Office", name := "collectPremium", desc := "(LWeatherInsurance$Ledger;I)V" } : Jvm.MethodName), prog_6_method_20_code, 5, none, [], (3, 2, 44, 0, 0), (false, false, []), [(0, .aload_n 0, 1, 0, 0), (1, .getfield 21, 3, 4, 1), (4, .getfield 74, 3, 1, 3), (7, .iload_n 2, 1, 0, 0), (8, .iaload, 1, 0, 0), (9, .istore_n 3, 1, 0, 0), (10, .aload_n 0, 1, 0, 0), (11, .getfield 21, 3, 4, 1), (14, .iload_n 2, 1, 0, 0), (15, .invokevirtual 86, 3, 56, 1), (18, .istore 4, 2, 0, 0), (20, .aload_n 1, 1, 0, 0), (21, .getfield 49, 3, 3, 2), (24, .iload_n 3, 1, 0, 0), (25, .iaload, 1, 0, 0), (26, .iload 4, 2, 0, 0), (28, .if_icmp .lt 13, 3, 0, 0), (31, .aload_n 1, 1, 0, 0), (32, .iload_n 3, 1, 0, 0), (33, .iload 4, 2, 0, 0), (35, .invokevirtual 90, 3, 108, 3), (38, .goto 10, 3, 0, 0), (41, .aload_n 1, 1, 0, 0), (42, .getfield 94, 3, 3, 4), (45, .iload_n 2, 1, 0, 0), (46, .iconst 1, 1, 0, 0), (47, .bastore, 1, 0, 0), (48, .return_, 1, 0, 0)])
set_option maxRecDepth 100000 in
def md_110 : a_Md := (({ cls := "WeatherInsurance$Office", name := "collectPremiums", desc := "(LWeatherInsurance$Ledger;)V" } : Jvm.MethodName), prog_6_method_19_code, 3, none, [], (2, 3, 68, 0, 0), (false, false, []), [(0, .aload_n 1, 1, 0, 0), (1, .getfield 42, 3, 3, 0), (4, .ifCond .eq 13, 3, 0, 0), (7, .aload_n 1, 1, 0, 0), (8, .getfield 42, 3, 3, 0), (11, .bipush 24, 2, 0, 0), (13, .irem, 1, 0, 0), (14, .ifCond .eq 4, 3, 0, 0), (17, .return_, 1, 0, 0), (18, .iconst 0, 1, 0, 0), (19, .istore_n 2, 1, 0, 0), (20, .iload_n 2, 1, 0, 0), (21, .aload_n 1, 1, 0, 0), (22, .getfield 46, 3, 3, 3), (25, .if_icmp .ge 24, 3, 0, 0), (28, .aload_n 0, 1, 0, 0), (29, .aload_n 1, 1, 0, 0), (30, .iload_n 2, 1, 0, 0), (31, .invokevirtual 168, 3, 59, 4), (34, .ifCond .eq 9, 3, 0, 0), (37, .aload_n 0, 1, 0, 0), (38, .aload_n 1, 1, 0, 0), (39, .iload_n 2, 1, 0, 0), (40, .invokevirtual 172, 3, 109, 4), (43, .iinc 2 1, 3, 0, 0), (46, .goto (-26), 3, 0, 0), (49, .return_, 1, 0, 0)])
set_option maxRecDepth 100000 in
def md_111 : a_Md := (({ cls := "WeatherInsurance$Office", name := "firstUndecidedOf", desc := "(I)I" } : Jvm.MethodName), prog_6_method_21_code, 3, (some .int), [], (2, 1, 22, 0, 0), (false, false, []), [(0, .iconst 0, 1, 0, 0), (1, .istore_n 2, 1, 0, 0), (2, .iload_n 2, 1, 0, 0), (3, .aload_n 0, 1, 0, 0), (4, .getfield 28, 3, 4, 2), (7, .getfield 103, 3, 3, 5), (10, .if_icmp .ge 20, 3, 0, 0), (13, .aload_n 0, 1, 0, 0), (14, .iload_n 2, 1, 0, 0), (15, .iload_n 1, 1, 0, 0), (16, .invokevirtual 128, 3, 81, 4), (19, .ifCond .eq 5, 3, 0, 0), (22, .iload_n 2, 1, 0, 0), (23, .ireturn, 1, 0, 0), (24, .iinc 2 1, 3, 0, 0), (27, .goto (-25), 3, 0, 0), (30, .iconst (-1), 1, 0, 0), (31, .ireturn, 1, 0, 0)])
set_option maxRecDepth 100000 in
def md_112 : a_Md := (({ cls := "WeatherInsurance$Ledger", name := "decide", desc := "(II)V" } : Jvm.MethodName), prog_5_method_9_code, 3, none, [], (3, 0, 0, 0, 0), (false, false, []), [(0, .aload_n 0, 1, 0, 0), (1, .getfield 25, 3, 3, 8), (4, .iload_n 1, 1, 0, 0), (5, .iload_n 2, 1, 0, 0), (6, .iastore, 1, 0, 0), (7, .iload_n 2, 1, 0, 0), (8, .ifCond .ne 11, 3, 0, 0), (11, .aload_n 0, 1, 0, 0), (12, .getfield 19, 3, 3, 6), (15, .iload_n 1, 1, 0, 0), (16, .iconst 1, 1, 0, 0), (17, .iastore, 1, 0, 0), (18, .return_, 1, 0, 0), (19, .aload_n 0, 1, 0, 0), (20, .getfield 19, 3, 3, 6), (23, .iload_n 1, 1, 0, 0), (24, .iconst 2, 1, 0, 0), (25, .iastore, 1, 0, 0), (26, .aload_n 0, 1, 0, 0), (27, .getfield 28, 3, 3, 9), (30, .aload_n 0, 1, 0, 0), (31, .getfield 50, 3, 3, 10), (34, .iload_n 1, 1, 0, 0), (35, .iastore, 1, 0, 0), (36, .aload_n 0, 1, 0, 0), (37, .dup, 1, 0, 0), (38, .getfield 50, 3, 3, 10), (41, .iconst 1, 1, 0, 0), (42, .iadd, 1, 0, 0), (43, .putfield 50, 3, 3, 10), (46, .return_, 1, 0, 0)])
set_option maxRecDepth 100000 in
def md_113 : a_Md := (({ cls := "WeatherInsurance$Office", name := "assess", desc := "(II)Z" } : Jvm.MethodName), prog_6_method_22_code, 4, (some .boolean), [], (3, 3, 79, 0, 0), (false, false, []), [(0, .aload_n 0, 1, 0, 0), (1, .getfield 28, 3, 4, 2), (4, .getfield 176, 3, 3, 7), (7, .iload_n 1, 1, 0, 0), (8, .dup2, 1, 0, 0), (9, .iaload, 1, 0, 0), (10, .iconst 1, 1, 0, 0), (11, .iadd, 1, 0, 0), (12, .iastore, 1, 0, 0), (13, .aload_n 0, 1, 0, 0), (14, .getfield 28, 3, 4, 2), (17, .getfield 176, 3, 3, 7), (20, .iload_n 1, 1, 0, 0), (21, .iaload, 1, 0, 0), (22, .iload_n 2, 1, 0, 0), (23, .invokestatic 179, 3, 84, 0), (26, .if_icmp .ge 5, 3, 0, 0), (29, .iconst 0, 1, 0, 0), (30, .ireturn, 1, 0, 0), (31, .aload_n 0, 1, 0, 0), (32, .getfield 21, 3, 4, 1), (35, .aload_n 0, 1, 0, 0), (36, .getfield 21, 3, 4, 1), (39, .getfield 106, 3, 1, 10), (42, .iload_n 1, 1, 0, 0), (43, .iaload, 1, 0, 0), (44, .aload_n 0, 1, 0, 0), (45, .getfield 28, 3, 4, 2), (48, .getfield 42, 3, 3, 0), (51, .invokevirtual 182, 3, 65, 1), (54, .istore_n 3, 1, 0, 0), (55, .aload_n 0, 1, 0, 0), (56, .getfield 28, 3, 4, 2), (59, .iload_n 1, 1, 0, 0), (60, .iload_n 3, 1, 0, 0), (61, .iload_n 3, 1, 0, 0), (62, .iconst 5, 1, 0, 0), (63, .imul, 1, 0, 0), (64, .iload_n 2, 1, 0, 0), (65, .imul, 1, 0, 0), (66, .bipush 100, 2, 0, 0), (68, .idiv, 1, 0, 0), (69, .isub, 1, 0, 0), (70, .invokevirtual 186, 3, 112, 3), (73, .iconst 1, 1, 0, 0), (74, .ireturn, 1, 0, 0)])
set_option maxRecDepth 100000 in
def md_114 : a_Md := (({ cls := "WeatherInsurance$Ledger", name := "payAmount", desc := "(II)V" } : Jvm.MethodName), prog_5_method_6_code, 3, none, [], (3, 0, 0, 0, 0), (false, false, []), [(0, .aload_n 0, 1, 0, 0), (1, .dup, 1, 0, 0), (2, .getfield 35, 3, 3, 1), (5, .iload_n 2, 1, 0, 0), (6, .isub, 1, 0, 0), (7, .putfield 35, 3, 3, 1), (10, .aload_n 0, 1, 0, 0), (11, .getfield 9, 3, 3, 2), (14, .iload_n 1, 1, 0, 0), (15, .dup2, 1, 0, 0), (16, .iaload, 1, 0, 0), (17, .iload_n 2, 1, 0, 0), (18, .iadd, 1, 0, 0), (19, .iastore, 1, 0, 0), (20, .aload_n 0, 1, 0, 0), (21, .dup, 1, 0, 0), (22, .getfield 59, 3, 3, 13), (25, .iload_n 2, 1, 0, 0), (26, .iadd, 1, 0, 0), (27, .putfield 59, 3, 3, 13), (30, .return_, 1, 0, 0)])
set_option maxRecDepth 100000 in
def md_115 : a_Md := (({ cls := "WeatherInsurance$Office", name := "payGrants", desc := "()V" } : Jvm.MethodName), prog_6_method_24_code, 3, none, [], (1, 1, 22, 0, 0), (false, false, []), [(0, .aload_n 0, 1, 0, 0), (1, .getfield 28, 3, 4, 2), (4, .getfield 134, 3, 3, 11), (7, .istore_n 1, 1, 0, 0), (8, .iload_n 1, 1, 0, 0), (9, .aload_n 0, 1, 0, 0), (10, .getfield 28, 3, 4, 2), (13, .getfield 189, 3, 3, 10), (16, .if_icmp .ge 83, 3, 0, 0), (19, .aload_n 0, 1, 0, 0), (20, .getfield 28, 3, 4, 2), (23, .getfield 137, 3, 3, 9), (26, .iload_n 1, 1, 0, 0), (27, .iaload, 1, 0, 0), (28, .istore_n 2, 1, 0, 0), (29, .aload_n 0, 1, 0, 0), (30, .getfield 28, 3, 4, 2), (33, .getfield 192, 3, 3, 1), (36, .aload_n 0, 1, 0, 0), (37, .getfield 28, 3, 4, 2), (40, .getfield 143, 3, 3, 8), (43, .iload_n 2, 1, 0, 0), (44, .iaload, 1, 0, 0), (45, .if_icmp .ge 4, 3, 0, 0), (48, .return_, 1, 0, 0), (49, .aload_n 0, 1, 0, 0), (50, .getfield 28, 3, 4, 2), (53, .aload_n 0, 1, 0, 0), (54, .iload_n 2, 1, 0, 0), (55, .invokevirtual 140, 3, 88, 4), (58, .aload_n 0, 1, 0, 0), (59, .getfield 28, 3, 4, 2), (62, .getfield 143, 3, 3, 8), (65, .iload_n 2, 1, 0, 0), (66, .iaload, 1, 0, 0), (67, .invokevirtual 195, 3, 114, 3), (70, .aload_n 0, 1, 0, 0), (71, .getfield 28, 3, 4, 2), (74, .getfield 131, 3, 3, 6), (77, .iload_n 2, 1, 0, 0), (78, .iconst 3, 1, 0, 0), (79, .iastore, 1, 0, 0), (80, .aload_n 0, 1, 0, 0), (81, .getfield 28, 3, 4, 2), (84, .dup, 1, 0, 0), (85, .getfield 134, 3, 3, 11), (88, .iconst 1, 1, 0, 0), (89, .iadd, 1, 0, 0), (90, .putfield 134, 3, 3, 11), (93, .iinc 1 1, 3, 0, 0), (96, .goto (-88), 3, 0, 0), (99, .return_, 1, 0, 0)])
set_option maxRecDepth 100000 in
def md_116 : a_Md := (({ cls := "WeatherInsurance$Office", name := "letHourPass", desc := "(II)I" } : Jvm.MethodName), prog_6_method_18_code, 6, (some .int), [], (3, 4, 102, 0, 0), (false, false, []), [(0, .aload_n 0, 1, 0, 0), (1, .aload_n 0, 1, 0, 0), (2, .getfield 28, 3, 4, 2), (5, .invokevirtual 146, 3, 110, 4), (8, .aload_n 0, 1, 0, 0), (9, .getfield 21, 3, 4, 1), (12, .getfield 150, 3, 1, 0), (15, .aload_n 0, 1, 0, 0), (16, .getfield 28, 3, 4, 2), (19, .getfield 42, 3, 3, 0), (22, .iload_n 1, 1, 0, 0), (23, .iastore, 1, 0, 0), (24, .aload_n 0, 1, 0, 0), (25, .getfield 21, 3, 4, 1), (28, .getfield 153, 3, 1, 1), (31, .aload_n 0, 1, 0, 0), (32, .getfield 28, 3, 4, 2), (35, .getfield 42, 3, 3, 0), (38, .iload_n 2, 1, 0, 0), (39, .iastore, 1, 0, 0), (40, .aload_n 0, 1, 0, 0), (41, .getfield 28, 3, 4, 2), (44, .dup, 1, 0, 0), (45, .getfield 42, 3, 3, 0), (48, .iconst 1, 1, 0, 0), (49, .iadd, 1, 0, 0), (50, .putfield 42, 3, 3, 0), (53, .iconst 0, 1, 0, 0), (54, .istore_n 3, 1, 0, 0), (55, .iconst 0, 1, 0, 0), (56, .istore 4, 2, 0, 0), (58, .iload 4, 2, 0, 0), (60, .aload_n 0, 1, 0, 0), (61, .getfield 12, 3, 4, 0), (64, .getfield 122, 3, 6, 4), (67, .if_icmp .ge 45, 3, 0, 0), (70, .aload_n 0, 1, 0, 0), (71, .iload 4, 2, 0, 0), (73, .invokevirtual 156, 3, 111, 4), (76, .istore 5, 2, 0, 0), (78, .iload 5, 2, 0, 0), (80, .iconst (-1), 1, 0, 0), (81, .if_icmp .eq 25, 3, 0, 0), (84, .aload_n 0, 1, 0, 0), (85, .iload 5, 2, 0, 0), (87, .aload_n 0, 1, 0, 0), (88, .getfield 12, 3, 4, 0), (91, .getfield 159, 3, 6, 5), (94, .iload 4, 2, 0, 0), (96, .iaload, 1, 0, 0), (97, .invokevirtual 162, 3, 113, 4), (100, .ifCond .eq 6, 3, 0, 0), (103, .iinc 3 1, 3, 0, 0), (106, .iinc 4 1, 3, 0, 0), (109, .goto (-51), 3, 0, 0), (112, .aload_n 0, 1, 0, 0), (113, .invokevirtual 165, 3, 115, 4), (116, .iload_n 3, 1, 0, 0), (117, .ireturn, 1, 0, 0)])
set_option maxRecDepth 100000 in
def md_117 : a_Md := (({ cls := "WeatherInsurance", name := "passHour", desc := "(II)I" } : Jvm.MethodName), prog_1_method_56_code, 3, (some .int), [], (3, 5, 127, 0, 0), (false, false, []), [(0, .iload_n 1, 1, 0, 0), (1, .iconst 0, 1, 0, 0), (2, .sipush 150, 3, 0, 0), (5, .invokestatic 274, 3, 104, 0), (8, .iload_n 2, 1, 0, 0), (9, .iconst 0, 1, 0, 0), (10, .bipush 50, 2, 0, 0), (12, .invokestatic 274, 3, 104, 0), (15, .aload_n 0, 1, 0, 0), (16, .getfield 54, 3, 8, 9), (19, .iconst 1, 1, 0, 0), (20, .invokevirtual 295, 3, 105, 4), (23, .ifCond .ne 14, 3, 0, 0), (37, .aload_n 0, 1, 0, 0), (38, .getfield 47, 3, 8, 8), (41, .aload_n 0, 1, 0, 0), (42, .getfield 71, 3, 8, 12), (45, .invokevirtual 131, 3, 107, 2), (48, .aload_n 0, 1, 0, 0), (49, .getfield 54, 3, 8, 9), (52, .iload_n 1, 1, 0, 0), (53, .iload_n 2, 1, 0, 0), (54, .invokevirtual 306, 3, 116, 4), (57, .ireturn, 1, 0, 0)])
set_option maxRecDepth 100000 in
def md_118 : a_Md := (({ cls := "WeatherInsuranceLaw", name := "passes", desc := "(II)I" } : Jvm.MethodName), method_7_code, 7, (some .int), [], (3, 1, 23, 0, 0), (false, false, []), [(0, .aload_n 0, 1, 0, 0), (1, .getfield 99, 3, 9, 26), (4, .ifCond .le 120, 3, 0, 0), (7, .aload_n 0, 1, 0, 0), (8, .getfield 99, 3, 9, 26), (11, .bipush 24, 2, 0, 0), (13, .irem, 1, 0, 0), (14, .ifCond .ne 110, 3, 0, 0), (17, .iconst 0, 1, 0, 0), (18, .istore_n 3, 1, 0, 0), (19, .iload_n 3, 1, 0, 0), (20, .aload_n 0, 1, 0, 0), (21, .getfield 103, 3, 9, 24), (24, .if_icmp .ge 100, 3, 0, 0), (27, .aload_n 0, 1, 0, 0), (28, .iload_n 3, 1, 0, 0), (29, .invokevirtual 106, 3, 61, 9), (32, .ifCond .ne 6, 3, 0, 0), (35, .goto 83, 3, 0, 0), (38, .aload_n 0, 1, 0, 0), (39, .getfield 7, 3, 9, 0), (42, .aload_n 0, 1, 0, 0), (43, .getfield 22, 3, 9, 4), (46, .iload_n 3, 1, 0, 0), (47, .iaload, 1, 0, 0), (48, .iaload, 1, 0, 0), (49, .aload_n 0, 1, 0, 0), (50, .getfield 40, 3, 9, 10), (53, .iload_n 3, 1, 0, 0), (54, .iaload, 1, 0, 0), (55, .if_icmp .ge 13, 3, 0, 0), (58, .aload_n 0, 1, 0, 0), (59, .getfield 46, 3, 9, 12), (62, .iload_n 3, 1, 0, 0), (63, .iconst 1, 1, 0, 0), (64, .bastore, 1, 0, 0), (65, .goto 53, 3, 0, 0), (68, .aload_n 0, 1, 0, 0), (69, .getfield 7, 3, 9, 0), (72, .aload_n 0, 1, 0, 0), (73, .getfield 22, 3, 9, 4), (76, .iload_n 3, 1, 0, 0), (77, .iaload, 1, 0, 0), (78, .dup2, 1, 0, 0), (79, .iaload, 1, 0, 0), (80, .aload_n 0, 1, 0, 0), (81, .getfield 40, 3, 9, 10), (84, .iload_n 3, 1, 0, 0), (85, .iaload, 1, 0, 0), (86, .isub, 1, 0, 0), (87, .iastore, 1, 0, 0), (88, .aload_n 0, 1, 0, 0), (89, .dup, 1, 0, 0), (90, .getfield 109, 3, 9, 27), (93, .aload_n 0, 1, 0, 0), (94, .getfield 40, 3, 9, 10), (97, .iload_n 3, 1, 0, 0), (98, .iaload, 1, 0, 0), (99, .iadd, 1, 0, 0), (100, .putfield 109, 3, 9, 27), (103, .aload_n 0, 1, 0, 0), (104, .dup, 1, 0, 0), (105, .getfield 112, 3, 9, 28), (108, .aload_n 0, 1, 0, 0), (109, .getfield 40, 3, 9, 10), (112, .iload_n 3, 1, 0, 0), (113, .iaload, 1, 0, 0), (114, .iadd, 1, 0, 0), (115, .putfield 112, 3, 9, 28), (118, .iinc 3 1, 3, 0, 0), (121, .goto (-102), 3, 0, 0), (124, .iconst 0, 1, 0, 0), (125, .istore_n 3, 1, 0, 0), (126, .iload_n 3, 1, 0, 0), (127, .aload_n 0, 1, 0, 0), (128, .getfield 103, 3, 9, 24), (131, .if_icmp .ge 98, 3, 0, 0), (134, .aload_n 0, 1, 0, 0), (135, .getfield 99, 3, 9, 26), (138, .aload_n 0, 1, 0, 0), (139, .getfield 25, 3, 9, 5), (142, .iload_n 3, 1, 0, 0), (143, .iaload, 1, 0, 0), (144, .if_icmp .lt 79, 3, 0, 0), (147, .aload_n 0, 1, 0, 0), (148, .getfield 99, 3, 9, 26), (151, .aload_n 0, 1, 0, 0), (152, .getfield 25, 3, 9, 5), (155, .iload_n 3, 1, 0, 0), (156, .iaload, 1, 0, 0), (157, .aload_n 0, 1, 0, 0), (158, .getfield 28, 3, 9, 6), (161, .iload_n 3, 1, 0, 0), (162, .iaload, 1, 0, 0), (163, .iadd, 1, 0, 0), (164, .if_icmp .lt 6, 3, 0, 0), (167, .goto 56, 3, 0, 0), (170, .aload_n 0, 1, 0, 0), (171, .getfield 19, 3, 9, 3), (174, .iload_n 3, 1, 0, 0), (175, .iaload, 1, 0, 0), (176, .iconst 1, 1, 0, 0), (177, .if_icmp .ne 16, 3, 0, 0), (180, .aload_n 0, 1, 0, 0), (181, .getfield 43, 3, 9, 11), (184, .iload_n 3, 1, 0, 0), (185, .dup2, 1, 0, 0), (186, .iaload, 1, 0, 0), (187, .iload_n 2, 1, 0, 0), (188, .iadd, 1, 0, 0), (189, .iastore, 1, 0, 0), (190, .goto 33, 3, 0, 0), (193, .iload_n 1, 1, 0, 0), (194, .aload_n 0, 1, 0, 0), (195, .getfield 34, 3, 9, 8), (198, .iload_n 3, 1, 0, 0), (199, .iaload, 1, 0, 0), (200, .if_icmp .lt 13, 3, 0, 0), (203, .iload_n 1, 1, 0, 0), (204, .aload_n 0, 1, 0, 0), (205, .getfield 37, 3, 9, 9), (208, .iload_n 3, 1, 0, 0), (209, .iaload, 1, 0, 0), (210, .if_icmp .le 13, 3, 0, 0), (213, .aload_n 0, 1, 0, 0), (214, .getfield 43, 3, 9, 11), (217, .iload_n 3, 1, 0, 0), (218, .dup2, 1, 0, 0), (219, .iaload, 1, 0, 0), (220, .iconst 1, 1, 0, 0), (221, .iadd, 1, 0, 0), (222, .iastore, 1, 0, 0), (223, .iinc 3 1, 3, 0, 0), (226, .goto (-100), 3, 0, 0), (229, .aload_n 0, 1, 0, 0), (230, .dup, 1, 0, 0), (231, .getfield 99, 3, 9, 26), (234, .iconst 1, 1, 0, 0), (235, .iadd, 1, 0, 0), (236, .putfield 99, 3, 9, 26), (239, .aload_n 0, 1, 0, 0), (240, .getfield 115, 3, 9, 32), (243, .istore_n 3, 1, 0, 0), (244, .iconst 0, 1, 0, 0), (245, .istore 4, 2, 0, 0), (247, .iload 4, 2, 0, 0), (249, .aload_n 0, 1, 0, 0), (250, .getfield 118, 3, 9, 23), (253, .if_icmp .ge 230, 3, 0, 0), (256, .aload_n 0, 1, 0, 0), (257, .getfield 70, 3, 9, 19), (260, .iload 4, 2, 0, 0), (262, .iaload, 1, 0, 0), (263, .ifCond .ne 6, 3, 0, 0), (266, .goto 211, 3, 0, 0), (269, .aload_n 0, 1, 0, 0), (270, .getfield 73, 3, 9, 20), (273, .iload 4, 2, 0, 0), (275, .dup2, 1, 0, 0), (276, .iaload, 1, 0, 0), (277, .iconst 1, 1, 0, 0), (278, .iadd, 1, 0, 0), (279, .iastore, 1, 0, 0), (280, .aload_n 0, 1, 0, 0), (281, .getfield 73, 3, 9, 20), (284, .iload 4, 2, 0, 0), (286, .iaload, 1, 0, 0), (287, .iconst 2, 1, 0, 0), (288, .aload_n 0, 1, 0, 0), (289, .getfield 16, 3, 9, 2), (292, .iload 4, 2, 0, 0), (294, .iaload, 1, 0, 0), (295, .iadd, 1, 0, 0), (296, .if_icmp .ge 6, 3, 0, 0), (299, .goto 178, 3, 0, 0), (302, .aload_n 0, 1, 0, 0), (303, .getfield 67, 3, 9, 18), (306, .iload 4, 2, 0, 0), (308, .aaload, 1, 0, 0), (309, .iconst 0, 1, 0, 0), (310, .iaload, 1, 0, 0), (311, .istore 5, 2, 0, 0), (313, .aload_n 0, 1, 0, 0), (314, .getfield 73, 3, 9, 20), (317, .iload 4, 2, 0, 0), (319, .iconst 0, 1, 0, 0), (320, .iastore, 1, 0, 0), (321, .aload_n 0, 1, 0, 0), (322, .getfield 70, 3, 9, 19), (325, .iload 4, 2, 0, 0), (327, .dup2, 1, 0, 0), (328, .iaload, 1, 0, 0), (329, .iconst 1, 1, 0, 0), (330, .isub, 1, 0, 0), (331, .iastore, 1, 0, 0), (332, .iconst 0, 1, 0, 0), (333, .istore 6, 2, 0, 0), (335, .iload 6, 2, 0, 0), (337, .aload_n 0, 1, 0, 0), (338, .getfield 70, 3, 9, 19), (341, .iload 4, 2, 0, 0), (343, .iaload, 1, 0, 0), (344, .if_icmp .ge 31, 3, 0, 0), (347, .aload_n 0, 1, 0, 0), (348, .getfield 67, 3, 9, 18), (351, .iload 4, 2, 0, 0), (353, .aaload, 1, 0, 0), (354, .iload 6, 2, 0, 0), (356, .aload_n 0, 1, 0, 0), (357, .getfield 67, 3, 9, 18), (360, .iload 4, 2, 0, 0), (362, .aaload, 1, 0, 0), (363, .iload 6, 2, 0, 0), (365, .iconst 1, 1, 0, 0), (366, .iadd, 1, 0, 0), (367, .iaload, 1, 0, 0), (368, .iastore, 1, 0, 0), (369, .iinc 6 1, 3, 0, 0), (372, .goto (-37), 3, 0, 0), (375, .aload_n 0, 1, 0, 0), (376, .aload_n 0, 1, 0, 0), (377, .getfield 53, 3, 9, 14), (380, .iload 5, 2, 0, 0), (382, .iaload, 1, 0, 0), (383, .invokevirtual 121, 3, 67, 9), (386, .istore 6, 2, 0, 0), (388, .aload_n 0, 1, 0, 0), (389, .getfield 62, 3, 9, 17), (392, .iload 5, 2, 0, 0), (394, .iload 6, 2, 0, 0), (396, .iconst 5, 1, 0, 0), (397, .aload_n 0, 1, 0, 0), (398, .getfield 16, 3, 9, 2), (401, .iload 4, 2, 0, 0), (403, .iaload, 1, 0, 0), (404, .imul, 1, 0, 0), (405, .iload 6, 2, 0, 0), (407, .imul, 1, 0, 0), (408, .bipush 100, 2, 0, 0), (410, .idiv, 1, 0, 0), (411, .isub, 1, 0, 0), (412, .iastore, 1, 0, 0), (413, .aload_n 0, 1, 0, 0), (414, .getfield 59, 3, 9, 16), (417, .iload 5, 2, 0, 0), (419, .aload_n 0, 1, 0, 0), (420, .getfield 62, 3, 9, 17), (423, .iload 5, 2, 0, 0), (425, .iaload, 1, 0, 0), (426, .ifCond .le 7, 3, 0, 0), (429, .iconst 2, 1, 0, 0), (430, .goto 4, 3, 0, 0), (433, .iconst 1, 1, 0, 0), (434, .iastore, 1, 0, 0), (435, .aload_n 0, 1, 0, 0), (436, .dup, 1, 0, 0), (437, .getfield 115, 3, 9, 32), (440, .iconst 1, 1, 0, 0), (441, .iadd, 1, 0, 0), (442, .putfield 115, 3, 9, 32), (445, .aload_n 0, 1, 0, 0), (446, .getfield 59, 3, 9, 16), (449, .iload 5, 2, 0, 0), (451, .iaload, 1, 0, 0), (452, .iconst 2, 1, 0, 0), (453, .if_icmp .ne 24, 3, 0, 0), (456, .aload_n 0, 1, 0, 0), (457, .getfield 76, 3, 9, 21), (460, .aload_n 0, 1, 0, 0), (461, .getfield 125, 3, 9, 31), (464, .iload 5, 2, 0, 0), (466, .iastore, 1, 0, 0), (467, .aload_n 0, 1, 0, 0), (468, .dup, 1, 0, 0), (469, .getfield 125, 3, 9, 31), (472, .iconst 1, 1, 0, 0), (473, .iadd, 1, 0, 0), (474, .putfield 125, 3, 9, 31), (477, .iinc 4 1, 3, 0, 0), (480, .goto (-233), 3, 0, 0), (483, .aload_n 0, 1, 0, 0), (484, .getfield 125, 3, 9, 31), (487, .ifCond .le 170, 3, 0, 0), (490, .aload_n 0, 1, 0, 0), (491, .getfield 109, 3, 9, 27), (494, .aload_n 0, 1, 0, 0), (495, .getfield 62, 3, 9, 17), (498, .aload_n 0, 1, 0, 0), (499, .getfield 76, 3, 9, 21), (502, .iconst 0, 1, 0, 0), (503, .iaload, 1, 0, 0), (504, .iaload, 1, 0, 0), (505, .if_icmp .lt 152, 3, 0, 0), (508, .aload_n 0, 1, 0, 0), (509, .getfield 76, 3, 9, 21), (512, .iconst 0, 1, 0, 0), (513, .iaload, 1, 0, 0), (514, .istore 4, 2, 0, 0), (516, .aload_n 0, 1, 0, 0), (517, .dup, 1, 0, 0), (518, .getfield 125, 3, 9, 31), (521, .iconst 1, 1, 0, 0), (522, .isub, 1, 0, 0), (523, .putfield 125, 3, 9, 31), (526, .iconst 0, 1, 0, 0), (527, .istore 5, 2, 0, 0), (529, .iload 5, 2, 0, 0), (531, .aload_n 0, 1, 0, 0), (532, .getfield 125, 3, 9, 31), (535, .if_icmp .ge 25, 3, 0, 0), (538, .aload_n 0, 1, 0, 0), (539, .getfield 76, 3, 9, 21), (542, .iload 5, 2, 0, 0), (544, .aload_n 0, 1, 0, 0), (545, .getfield 76, 3, 9, 21), (548, .iload 5, 2, 0, 0), (550, .iconst 1, 1, 0, 0), (551, .iadd, 1, 0, 0), (552, .iaload, 1, 0, 0), (553, .iastore, 1, 0, 0), (554, .iinc 5 1, 3, 0, 0), (557, .goto (-28), 3, 0, 0), (560, .aload_n 0, 1, 0, 0), (561, .getfield 59, 3, 9, 16), (564, .iload 4, 2, 0, 0), (566, .iconst 3, 1, 0, 0), (567, .iastore, 1, 0, 0), (568, .aload_n 0, 1, 0, 0), (569, .dup, 1, 0, 0), (570, .getfield 109, 3, 9, 27), (573, .aload_n 0, 1, 0, 0), (574, .getfield 62, 3, 9, 17), (577, .iload 4, 2, 0, 0), (579, .iaload, 1, 0, 0), (580, .isub, 1, 0, 0), (581, .putfield 109, 3, 9, 27), (584, .aload_n 0, 1, 0, 0), (585, .getfield 7, 3, 9, 0), (588, .aload_n 0, 1, 0, 0), (589, .getfield 22, 3, 9, 4), (592, .aload_n 0, 1, 0, 0), (593, .getfield 53, 3, 9, 14), (596, .iload 4, 2, 0, 0), (598, .iaload, 1, 0, 0), (599, .iaload, 1, 0, 0), (600, .dup2, 1, 0, 0), (601, .iaload, 1, 0, 0), (602, .aload_n 0, 1, 0, 0), (603, .getfield 62, 3, 9, 17), (606, .iload 4, 2, 0, 0), (608, .iaload, 1, 0, 0), (609, .iadd, 1, 0, 0), (610, .iastore, 1, 0, 0), (611, .aload_n 0, 1, 0, 0), (612, .getfield 13, 3, 9, 1), (615, .aload_n 0, 1, 0, 0), (616, .getfield 22, 3, 9, 4), (619, .aload_n 0, 1, 0, 0), (620, .getfield 53, 3, 9, 14), (623, .iload 4, 2, 0, 0), (625, .iaload, 1, 0, 0), (626, .iaload, 1, 0, 0), (627, .dup2, 1, 0, 0), (628, .iaload, 1, 0, 0), (629, .aload_n 0, 1, 0, 0), (630, .getfield 62, 3, 9, 17), (633, .iload 4, 2, 0, 0), (635, .iaload, 1, 0, 0), (636, .iadd, 1, 0, 0), (637, .iastore, 1, 0, 0), (638, .aload_n 0, 1, 0, 0), (639, .dup, 1, 0, 0), (640, .getfield 128, 3, 9, 29), (643, .aload_n 0, 1, 0, 0), (644, .getfield 62, 3, 9, 17), (647, .iload 4, 2, 0, 0), (649, .iaload, 1, 0, 0), (650, .iadd, 1, 0, 0), (651, .putfield 128, 3, 9, 29), (654, .goto (-171), 3, 0, 0), (657, .aload_n 0, 1, 0, 0), (658, .getfield 115, 3, 9, 32), (661, .iload_n 3, 1, 0, 0), (662, .isub, 1, 0, 0), (663, .ireturn, 1, 0, 0)])
set_option maxRecDepth 100000 in
def md_119 : a_Md := (({ cls := "WeatherInsurance$Office", name := "leastBusyAssessor", desc := "()I" } : Jvm.MethodName), prog_6_method_13_code, 3, (some .int), [], (1, 2, 45, 0, 0), (false, false, []), [(0, .iconst 0, 1, 0, 0), (1, .istore_n 1, 1, 0, 0), (2, .iconst 1, 1, 0, 0), (3, .istore_n 2, 1, 0, 0), (4, .iload_n 2, 1, 0, 0), (5, .aload_n 0, 1, 0, 0), (6, .getfield 12, 3, 4, 0), (9, .getfield 122, 3, 6, 4), (12, .if_icmp .ge 24, 3, 0, 0), (15, .aload_n 0, 1, 0, 0), (16, .iload_n 2, 1, 0, 0), (17, .invokevirtual 125, 3, 82, 4), (20, .aload_n 0, 1, 0, 0), (21, .iload_n 1, 1, 0, 0), (22, .invokevirtual 125, 3, 82, 4), (25, .if_icmp .ge 5, 3, 0, 0), (28, .iload_n 2, 1, 0, 0), (29, .istore_n 1, 1, 0, 0), (30, .iinc 2 1, 3, 0, 0), (33, .goto (-29), 3, 0, 0), (36, .iload_n 1, 1, 0, 0), (37, .ireturn, 1, 0, 0)])
set_option maxRecDepth 100000 in
def md_120 : a_Md := (({ cls := "WeatherInsurance$Ledger", name := "addClaim", desc := "()I" } : Jvm.MethodName), prog_5_method_8_code, 1, (some .int), [], (1, 0, 0, 0, 0), (false, false, []), [(0, .aload_n 0, 1, 0, 0), (1, .getfield 19, 3, 3, 6), (4, .aload_n 0, 1, 0, 0), (5, .getfield 47, 3, 3, 5), (8, .iconst 0, 1, 0, 0), (9, .iastore, 1, 0, 0), (10, .aload_n 0, 1, 0, 0), (11, .getfield 22, 3, 3, 7), (14, .aload_n 0, 1, 0, 0), (15, .getfield 47, 3, 3, 5), (18, .iconst 0, 1, 0, 0), (19, .iastore, 1, 0, 0), (20, .aload_n 0, 1, 0, 0), (21, .getfield 25, 3, 3, 8), (24, .aload_n 0, 1, 0, 0), (25, .getfield 47, 3, 3, 5), (28, .iconst 0, 1, 0, 0), (29, .iastore, 1, 0, 0), (30, .aload_n 0, 1, 0, 0), (31, .dup, 1, 0, 0), (32, .getfield 47, 3, 3, 5), (35, .iconst 1, 1, 0, 0), (36, .iadd, 1, 0, 0), (37, .putfield 47, 3, 3, 5), (40, .aload_n 0, 1, 0, 0), (41, .getfield 47, 3, 3, 5), (44, .iconst 1, 1, 0, 0), (45, .isub, 1, 0, 0), (46, .ireturn, 1, 0, 0)])
set_option maxRecDepth 100000 in
def md_121 : a_Md := (({ cls := "WeatherInsurance$Office", name := "openClaim", desc := "(I)I" } : Jvm.MethodName), prog_6_method_12_code, 4, (some .int), [], (2, 3, 67, 0, 0), (false, false, []), [(0, .aload_n 0, 1, 0, 0), (1, .invokevirtual 113, 3, 119, 4), (4, .istore_n 2, 1, 0, 0), (5, .aload_n 0, 1, 0, 0), (6, .getfield 28, 3, 4, 2), (9, .invokevirtual 116, 3, 120, 3), (12, .istore_n 3, 1, 0, 0), (13, .aload_n 0, 1, 0, 0), (14, .getfield 21, 3, 4, 1), (17, .getfield 106, 3, 1, 10), (20, .iload_n 3, 1, 0, 0), (21, .iload_n 1, 1, 0, 0), (22, .iastore, 1, 0, 0), (23, .aload_n 0, 1, 0, 0), (24, .getfield 21, 3, 4, 1), (27, .getfield 119, 3, 1, 11), (30, .iload_n 3, 1, 0, 0), (31, .iload_n 2, 1, 0, 0), (32, .iastore, 1, 0, 0), (33, .iload_n 3, 1, 0, 0), (34, .ireturn, 1, 0, 0)])
set_option maxRecDepth 100000 in
def md_122 : a_Md := (({ cls := "WeatherInsurance", name := "fileClaim", desc := "(I)I" } : Jvm.MethodName), prog_1_method_59_code, 2, (some .int), [], (2, 6, 90, 1, 6), (true, false, []), [(0, .aload_n 0, 1, 0, 0), (1, .iload_n 1, 1, 0, 0), (2, .invokevirtual 195, 3, 53, 8), (5, .aload_n 0, 1, 0, 0), (6, .getfield 54, 3, 8, 9), (9, .iload_n 1, 1, 0, 0), (10, .invokevirtual 217, 3, 70, 4), (13, .ifCond .eq 14, 3, 0, 0), (16, .new 299, 3, 102, 0), (27, .aload_n 0, 1, 0, 0), (28, .getfield 47, 3, 8, 8), (31, .aload_n 0, 1, 0, 0), (32, .getfield 71, 3, 8, 12), (35, .invokevirtual 131, 3, 107, 2), (38, .aload_n 0, 1, 0, 0), (39, .getfield 54, 3, 8, 9), (42, .iload_n 1, 1, 0, 0), (43, .invokevirtual 326, 3, 121, 4), (46, .ireturn, 1, 0, 0)])
set_option maxRecDepth 100000 in
def md_123 : a_Md := (({ cls := "WeatherInsurance", name := "requireInsurance", desc := "(III)V" } : Jvm.MethodName), prog_1_method_76_code, 4, none, [], (4, 1, 22, 0, 0), (false, false, []), [(0, .iload_n 1, 1, 0, 0), (1, .aload_n 0, 1, 0, 0), (2, .getfield 71, 3, 8, 12), (5, .getfield 152, 3, 3, 0), (8, .sipush 1000, 3, 0, 0), (11, .invokestatic 274, 3, 104, 0), (14, .iload_n 2, 1, 0, 0), (15, .iconst 1, 1, 0, 0), (16, .bipush 24, 2, 0, 0), (18, .invokestatic 274, 3, 104, 0), (21, .iload_n 3, 1, 0, 0), (22, .iconst 1, 1, 0, 0), (23, .sipush 500, 3, 0, 0), (26, .invokestatic 274, 3, 104, 0), (29, .return_, 1, 0, 0)])
set_option maxRecDepth 100000 in
def md_124 : a_Md := (({ cls := "WeatherInsurance$Office", name := "canSell", desc := "(II)Z" } : Jvm.MethodName), prog_6_method_4_code, 3, (some .boolean), [], (3, 0, 0, 0, 0), (false, false, []), [(0, .aload_n 0, 1, 0, 0), (1, .getfield 28, 3, 4, 2), (4, .getfield 46, 3, 3, 3), (7, .bipush 20, 2, 0, 0), (9, .if_icmp .ge 20, 3, 0, 0), (12, .aload_n 0, 1, 0, 0), (13, .getfield 28, 3, 4, 2), (16, .getfield 49, 3, 3, 2), (19, .iload_n 1, 1, 0, 0), (20, .iaload, 1, 0, 0), (21, .iload_n 2, 1, 0, 0), (22, .if_icmp .lt 7, 3, 0, 0), (25, .iconst 1, 1, 0, 0), (26, .goto 4, 3, 0, 0), (29, .iconst 0, 1, 0, 0), (30, .ireturn, 1, 0, 0)])
set_option maxRecDepth 100000 in
def md_125 : a_Md := (({ cls := "WeatherInsurance", name := "requireBuyer", desc := "(II)V" } : Jvm.MethodName), prog_1_method_77_code, 3, none, [], (3, 6, 90, 1, 6), (true, false, []), [(0, .aload_n 0, 1, 0, 0), (1, .getfield 54, 3, 8, 9), (4, .iload_n 1, 1, 0, 0), (5, .iload_n 2, 1, 0, 0), (6, .invokevirtual 378, 3, 124, 4), (9, .ifCond .ne 14, 3, 0, 0), (12, .new 299, 3, 102, 0), (23, .return_, 1, 0, 0)])
set_option maxRecDepth 100000 in
def md_126 : a_Md := (({ cls := "WeatherInsurance$Ledger", name := "addPolicy", desc := "()I" } : Jvm.MethodName), prog_5_method_7_code, 1, (some .int), [], (1, 0, 0, 0, 0), (false, false, []), [(0, .aload_n 0, 1, 0, 0), (1, .getfield 15, 3, 3, 4), (4, .aload_n 0, 1, 0, 0), (5, .getfield 44, 3, 3, 3), (8, .iconst 0, 1, 0, 0), (9, .bastore, 1, 0, 0), (10, .aload_n 0, 1, 0, 0), (11, .dup, 1, 0, 0), (12, .getfield 44, 3, 3, 3), (15, .iconst 1, 1, 0, 0), (16, .iadd, 1, 0, 0), (17, .putfield 44, 3, 3, 3), (20, .aload_n 0, 1, 0, 0), (21, .getfield 44, 3, 3, 3), (24, .iconst 1, 1, 0, 0), (25, .isub, 1, 0, 0), (26, .ireturn, 1, 0, 0)])
set_option maxRecDepth 100000 in
def md_127 : a_Md := (({ cls := "WeatherInsurance$Office", name := "sell", desc := "(IIIII)I" } : Jvm.MethodName), prog_6_method_7_code, 6, (some .int), [], (6, 2, 44, 0, 0), (false, false, []), [(0, .aload_n 0, 1, 0, 0), (1, .getfield 21, 3, 4, 1), (4, .getfield 74, 3, 1, 3), (7, .iload_n 1, 1, 0, 0), (8, .iload_n 2, 1, 0, 0), (9, .iastore, 1, 0, 0), (10, .aload_n 0, 1, 0, 0), (11, .getfield 21, 3, 4, 1), (14, .getfield 77, 3, 1, 4), (17, .iload_n 1, 1, 0, 0), (18, .iload_n 3, 1, 0, 0), (19, .iastore, 1, 0, 0), (20, .aload_n 0, 1, 0, 0), (21, .getfield 21, 3, 4, 1), (24, .getfield 80, 3, 1, 5), (27, .iload_n 1, 1, 0, 0), (28, .iload 4, 2, 0, 0), (30, .iastore, 1, 0, 0), (31, .aload_n 0, 1, 0, 0), (32, .getfield 21, 3, 4, 1), (35, .getfield 83, 3, 1, 6), (38, .iload_n 1, 1, 0, 0), (39, .iload 5, 2, 0, 0), (41, .iastore, 1, 0, 0), (42, .aload_n 0, 1, 0, 0), (43, .getfield 28, 3, 4, 2), (46, .iload_n 2, 1, 0, 0), (47, .aload_n 0, 1, 0, 0), (48, .getfield 21, 3, 4, 1), (51, .iload_n 1, 1, 0, 0), (52, .invokevirtual 86, 3, 56, 1), (55, .invokevirtual 90, 3, 108, 3), (58, .iload_n 1, 1, 0, 0), (59, .ireturn, 1, 0, 0)])
set_option maxRecDepth 100000 in
def md_128 : a_Md := (({ cls := "WeatherInsurance$Office", name := "sellKite", desc := "(IIIIII)I" } : Jvm.MethodName), prog_6_method_5_code, 8, (some .int), [], (7, 3, 69, 0, 0), (false, false, []), [(0, .aload_n 0, 1, 0, 0), (1, .getfield 28, 3, 4, 2), (4, .invokevirtual 53, 3, 126, 3), (7, .istore 7, 2, 0, 0), (9, .aload_n 0, 1, 0, 0), (10, .getfield 21, 3, 4, 1), (13, .getfield 57, 3, 1, 2), (16, .iload 7, 2, 0, 0), (18, .iconst 1, 1, 0, 0), (19, .bastore, 1, 0, 0), (20, .aload_n 0, 1, 0, 0), (21, .getfield 21, 3, 4, 1), (24, .getfield 61, 3, 1, 7), (27, .iload 7, 2, 0, 0), (29, .iload 5, 2, 0, 0), (31, .iastore, 1, 0, 0), (32, .aload_n 0, 1, 0, 0), (33, .getfield 21, 3, 4, 1), (36, .getfield 64, 3, 1, 8), (39, .iload 7, 2, 0, 0), (41, .iload 6, 2, 0, 0), (43, .iastore, 1, 0, 0), (44, .aload_n 0, 1, 0, 0), (45, .iload 7, 2, 0, 0), (47, .iload_n 1, 1, 0, 0), (48, .iload_n 2, 1, 0, 0), (49, .iload_n 3, 1, 0, 0), (50, .iload 4, 2, 0, 0), (52, .invokevirtual 67, 3, 127, 4), (55, .ireturn, 1, 0, 0)])
set_option maxRecDepth 100000 in
def md_129 : a_Md := (({ cls := "WeatherInsurance", name := "buyKite", desc := "(IIIIII)I" } : Jvm.MethodName), prog_1_method_57_code, 7, (some .int), [], (7, 7, 112, 1, 6), (true, false, []), [(0, .aload_n 0, 1, 0, 0), (1, .iload_n 1, 1, 0, 0), (2, .invokevirtual 158, 3, 51, 8), (5, .aload_n 0, 1, 0, 0), (6, .iload_n 2, 1, 0, 0), (7, .iload_n 3, 1, 0, 0), (8, .iload 4, 2, 0, 0), (10, .invokevirtual 309, 3, 123, 8), (13, .iload 5, 2, 0, 0), (15, .iconst 0, 1, 0, 0), (16, .sipush 150, 3, 0, 0), (19, .invokestatic 274, 3, 104, 0), (22, .iload 6, 2, 0, 0), (24, .iload 5, 2, 0, 0), (26, .sipush 150, 3, 0, 0), (29, .invokestatic 274, 3, 104, 0), (32, .aload_n 0, 1, 0, 0), (33, .iload_n 1, 1, 0, 0), (34, .iload_n 3, 1, 0, 0), (35, .iload 4, 2, 0, 0), (37, .invokestatic 278, 3, 54, 0), (40, .invokevirtual 312, 3, 125, 8), (43, .aload_n 0, 1, 0, 0), (44, .getfield 47, 3, 8, 8), (47, .aload_n 0, 1, 0, 0), (48, .getfield 71, 3, 8, 12), (51, .invokevirtual 131, 3, 107, 2), (54, .aload_n 0, 1, 0, 0), (55, .getfield 54, 3, 8, 9), (58, .iload_n 1, 1, 0, 0), (59, .iload_n 2, 1, 0, 0), (60, .iload_n 3, 1, 0, 0), (61, .iload 4, 2, 0, 0), (63, .iload 5, 2, 0, 0), (65, .iload 6, 2, 0, 0), (67, .invokevirtual 316, 3, 128, 4), (70, .ireturn, 1, 0, 0)])
set_option maxRecDepth 100000 in
def md_130 : a_Md := (({ cls := "WeatherInsurance$Office", name := "sellPicnic", desc := "(IIIII)I" } : Jvm.MethodName), prog_6_method_6_code, 7, (some .int), [], (6, 3, 69, 0, 0), (false, false, []), [(0, .aload_n 0, 1, 0, 0), (1, .getfield 28, 3, 4, 2), (4, .invokevirtual 53, 3, 126, 3), (7, .istore 6, 2, 0, 0), (9, .aload_n 0, 1, 0, 0), (10, .getfield 21, 3, 4, 1), (13, .getfield 57, 3, 1, 2), (16, .iload 6, 2, 0, 0), (18, .iconst 0, 1, 0, 0), (19, .bastore, 1, 0, 0), (20, .aload_n 0, 1, 0, 0), (21, .getfield 21, 3, 4, 1), (24, .getfield 71, 3, 1, 9), (27, .iload 6, 2, 0, 0), (29, .iload 5, 2, 0, 0), (31, .iastore, 1, 0, 0), (32, .aload_n 0, 1, 0, 0), (33, .iload 6, 2, 0, 0), (35, .iload_n 1, 1, 0, 0), (36, .iload_n 2, 1, 0, 0), (37, .iload_n 3, 1, 0, 0), (38, .iload 4, 2, 0, 0), (40, .invokevirtual 67, 3, 127, 4), (43, .ireturn, 1, 0, 0)])
set_option maxRecDepth 100000 in
def md_131 : a_Md := (({ cls := "WeatherInsurance", name := "buyPicnic", desc := "(IIIII)I" } : Jvm.MethodName), prog_1_method_58_code, 6, (some .int), [], (6, 7, 112, 1, 6), (true, false, []), [(0, .aload_n 0, 1, 0, 0), (1, .iload_n 1, 1, 0, 0), (2, .invokevirtual 158, 3, 51, 8), (5, .aload_n 0, 1, 0, 0), (6, .iload_n 2, 1, 0, 0), (7, .iload_n 3, 1, 0, 0), (8, .iload 4, 2, 0, 0), (10, .invokevirtual 309, 3, 123, 8), (13, .iload 5, 2, 0, 0), (15, .iconst 0, 1, 0, 0), (16, .bipush 50, 2, 0, 0), (18, .invokestatic 274, 3, 104, 0), (21, .aload_n 0, 1, 0, 0), (22, .iload_n 1, 1, 0, 0), (23, .iload_n 3, 1, 0, 0), (24, .iload 4, 2, 0, 0), (26, .iload 5, 2, 0, 0), (28, .invokestatic 281, 3, 55, 0), (31, .invokevirtual 312, 3, 125, 8), (34, .aload_n 0, 1, 0, 0), (35, .getfield 47, 3, 8, 8), (38, .aload_n 0, 1, 0, 0), (39, .getfield 71, 3, 8, 12), (42, .invokevirtual 131, 3, 107, 2), (45, .aload_n 0, 1, 0, 0), (46, .getfield 54, 3, 8, 9), (49, .iload_n 1, 1, 0, 0), (50, .iload_n 2, 1, 0, 0), (51, .iload_n 3, 1, 0, 0), (52, .iload 4, 2, 0, 0), (54, .iload 5, 2, 0, 0), (56, .invokevirtual 320, 3, 130, 4), (59, .ireturn, 1, 0, 0)])
set_option maxRecDepth 100000 in
def md_132 : a_Md := (({ cls := "WeatherInsuranceLaw", name := "isRefused", desc := "(LWeatherInsurance;IIIIII)Z" } : Jvm.MethodName), method_10_code, 8, (some .boolean), [(0, 50, 51, 144)], (7, 8, 138, 1, 6), (false, false, [2]), [(0, .iload_n 1, 1, 0, 0), (1, .ifCond .ne 11, 3, 0, 0), (4, .aload_n 0, 1, 0, 0), (5, .iload_n 2, 1, 0, 0), (6, .invokevirtual 134, 3, 122, 8), (9, .goto 38, 3, 0, 0), (12, .iload_n 1, 1, 0, 0), (13, .iconst 1, 1, 0, 0), (14, .if_icmp .ne 21, 3, 0, 0), (17, .aload_n 0, 1, 0, 0), (18, .iload_n 2, 1, 0, 0), (19, .iload_n 3, 1, 0, 0), (20, .iload 4, 2, 0, 0), (22, .iload 5, 2, 0, 0), (24, .iload 6, 2, 0, 0), (26, .sipush 150, 3, 0, 0), (29, .invokevirtual 137, 3, 129, 8), (32, .goto 15, 3, 0, 0), (35, .aload_n 0, 1, 0, 0), (36, .iload_n 2, 1, 0, 0), (37, .iload_n 3, 1, 0, 0), (38, .iload 4, 2, 0, 0), (40, .iload 5, 2, 0, 0), (42, .iload 6, 2, 0, 0), (44, .invokevirtual 141, 3, 131, 8), (47, .istore 7, 2, 0, 0), (49, .iconst 0, 1, 0, 0), (50, .ireturn, 1, 0, 0), (51, .astore 7, 2, 0, 0), (53, .iconst 1, 1, 0, 0), (54, .ireturn, 1, 0, 0)])
set_option maxRecDepth 100000 in
def md_133 : a_Md := (({ cls := "WeatherInsuranceLaw", name := "files", desc := "(I)I" } : Jvm.MethodName), method_9_code, 4, (some .int), [], (2, 0, 0, 0, 0), (false, false, []), [(0, .iconst 0, 1, 0, 0), (1, .istore_n 2, 1, 0, 0), (2, .iconst 1, 1, 0, 0), (3, .istore_n 3, 1, 0, 0), (4, .iload_n 3, 1, 0, 0), (5, .aload_n 0, 1, 0, 0), (6, .getfield 118, 3, 9, 23), (9, .if_icmp .ge 26, 3, 0, 0), (12, .aload_n 0, 1, 0, 0), (13, .getfield 70, 3, 9, 19), (16, .iload_n 3, 1, 0, 0), (17, .iaload, 1, 0, 0), (18, .aload_n 0, 1, 0, 0), (19, .getfield 70, 3, 9, 19), (22, .iload_n 2, 1, 0, 0), (23, .iaload, 1, 0, 0), (24, .if_icmp .ge 5, 3, 0, 0), (27, .iload_n 3, 1, 0, 0), (28, .istore_n 2, 1, 0, 0), (29, .iinc 3 1, 3, 0, 0), (32, .goto (-28), 3, 0, 0), (35, .aload_n 0, 1, 0, 0), (36, .getfield 50, 3, 9, 13), (39, .iload_n 1, 1, 0, 0), (40, .iconst 1, 1, 0, 0), (41, .bastore, 1, 0, 0), (42, .aload_n 0, 1, 0, 0), (43, .getfield 53, 3, 9, 14), (46, .aload_n 0, 1, 0, 0), (47, .getfield 131, 3, 9, 25), (50, .iload_n 1, 1, 0, 0), (51, .iastore, 1, 0, 0), (52, .aload_n 0, 1, 0, 0), (53, .getfield 56, 3, 9, 15), (56, .aload_n 0, 1, 0, 0), (57, .getfield 131, 3, 9, 25), (60, .iload_n 2, 1, 0, 0), (61, .iastore, 1, 0, 0), (62, .aload_n 0, 1, 0, 0), (63, .getfield 67, 3, 9, 18), (66, .iload_n 2, 1, 0, 0), (67, .aaload, 1, 0, 0), (68, .aload_n 0, 1, 0, 0), (69, .getfield 70, 3, 9, 19), (72, .iload_n 2, 1, 0, 0), (73, .iaload, 1, 0, 0), (74, .aload_n 0, 1, 0, 0), (75, .getfield 131, 3, 9, 25), (78, .iastore, 1, 0, 0), (79, .aload_n 0, 1, 0, 0), (80, .getfield 70, 3, 9, 19), (83, .iload_n 2, 1, 0, 0), (84, .dup2, 1, 0, 0), (85, .iaload, 1, 0, 0), (86, .iconst 1, 1, 0, 0), (87, .iadd, 1, 0, 0), (88, .iastore, 1, 0, 0), (89, .aload_n 0, 1, 0, 0), (90, .dup, 1, 0, 0), (91, .getfield 131, 3, 9, 25), (94, .iconst 1, 1, 0, 0), (95, .iadd, 1, 0, 0), (96, .putfield 131, 3, 9, 25), (99, .aload_n 0, 1, 0, 0), (100, .getfield 131, 3, 9, 25), (103, .iconst 1, 1, 0, 0), (104, .isub, 1, 0, 0), (105, .ireturn, 1, 0, 0)])
set_option maxRecDepth 100000 in
def md_134 : a_Md := (({ cls := "WeatherInsurance$Ledger", name := "takeDeposit", desc := "(II)I" } : Jvm.MethodName), prog_5_method_4_code, 3, (some .int), [], (3, 0, 0, 0, 0), (false, false, []), [(0, .aload_n 0, 1, 0, 0), (1, .getfield 9, 3, 3, 2), (4, .iload_n 1, 1, 0, 0), (5, .dup2, 1, 0, 0), (6, .iaload, 1, 0, 0), (7, .iload_n 2, 1, 0, 0), (8, .iadd, 1, 0, 0), (9, .iastore, 1, 0, 0), (10, .aload_n 0, 1, 0, 0), (11, .dup, 1, 0, 0), (12, .getfield 62, 3, 3, 14), (15, .iload_n 2, 1, 0, 0), (16, .iadd, 1, 0, 0), (17, .putfield 62, 3, 3, 14), (20, .aload_n 0, 1, 0, 0), (21, .getfield 9, 3, 3, 2), (24, .iload_n 1, 1, 0, 0), (25, .iaload, 1, 0, 0), (26, .ireturn, 1, 0, 0)])
set_option maxRecDepth 100000 in
def md_135 : a_Md := (({ cls := "WeatherInsurance", name := "deposit", desc := "(II)I" } : Jvm.MethodName), prog_1_method_60_code, 3, (some .int), [], (3, 3, 73, 0, 0), (false, false, []), [(0, .aload_n 0, 1, 0, 0), (1, .iload_n 1, 1, 0, 0), (2, .invokevirtual 158, 3, 51, 8), (5, .iload_n 2, 1, 0, 0), (6, .iconst 1, 1, 0, 0), (7, .sipush 999, 3, 0, 0), (10, .invokestatic 274, 3, 104, 0), (13, .aload_n 0, 1, 0, 0), (14, .getfield 47, 3, 8, 8), (17, .aload_n 0, 1, 0, 0), (18, .getfield 71, 3, 8, 12), (21, .invokevirtual 131, 3, 107, 2), (24, .aload_n 0, 1, 0, 0), (25, .getfield 71, 3, 8, 12), (28, .iload_n 1, 1, 0, 0), (29, .iload_n 2, 1, 0, 0), (30, .invokevirtual 329, 3, 134, 3), (33, .ireturn, 1, 0, 0)])
set_option maxRecDepth 100000 in
def md_136 : a_Md := (({ cls := "WeatherInsuranceLaw", name := "acts", desc := "(LWeatherInsurance;II)Z" } : Jvm.MethodName), method_11_code, 12, (some .boolean), [], (4, 9, 165, 1, 6), (false, false, []), [(0, .iload_n 2, 1, 0, 0), (1, .iconst 4, 1, 0, 0), (2, .iconst 4, 1, 0, 0), (3, .invokestatic 146, 3, 37, 0), (6, .aload_n 0, 1, 0, 0), (7, .getfield 150, 3, 9, 22), (10, .irem, 1, 0, 0), (11, .istore 4, 2, 0, 0), (13, .iload_n 2, 1, 0, 0), (14, .iconst 0, 1, 0, 0), (15, .iconst 4, 1, 0, 0), (16, .invokestatic 146, 3, 37, 0), (19, .tableswitch 548 0 14 #[73, 73, 73, 73, 73, 73, 73, 141, 141, 141, 141, 451, 451, 451, 451], 73, 0, 0), (92, .iconst 0, 1, 0, 0), (93, .istore 5, 2, 0, 0), (95, .iload 5, 2, 0, 0), (97, .iload_n 2, 1, 0, 0), (98, .iconst 4, 1, 0, 0), (99, .iconst 2, 1, 0, 0), (100, .invokestatic 146, 3, 37, 0), (103, .if_icmp .gt 55, 3, 0, 0), (106, .iload_n 3, 1, 0, 0), (107, .iconst 4, 1, 0, 0), (108, .iload 5, 2, 0, 0), (110, .imul, 1, 0, 0), (111, .bipush 6, 2, 0, 0), (113, .invokestatic 146, 3, 37, 0), (116, .istore 6, 2, 0, 0), (118, .iload_n 3, 1, 0, 0), (119, .iconst 3, 1, 0, 0), (120, .iconst 4, 1, 0, 0), (121, .iload 5, 2, 0, 0), (123, .imul, 1, 0, 0), (124, .iadd, 1, 0, 0), (125, .iconst 3, 1, 0, 0), (126, .invokestatic 146, 3, 37, 0), (129, .istore 7, 2, 0, 0), (131, .aload_n 1, 1, 0, 0), (132, .iload 6, 2, 0, 0), (134, .iload 7, 2, 0, 0), (136, .invokevirtual 153, 3, 117, 8), (139, .aload_n 0, 1, 0, 0), (140, .iload 6, 2, 0, 0), (142, .iload 7, 2, 0, 0), (144, .invokevirtual 157, 3, 118, 9), (147, .if_icmp .eq 5, 3, 0, 0), (150, .iconst 0, 1, 0, 0), (151, .ireturn, 1, 0, 0), (152, .iinc 5 1, 3, 0, 0), (155, .goto (-60), 3, 0, 0), (158, .iconst 1, 1, 0, 0), (159, .ireturn, 1, 0, 0), (160, .aload_n 0, 1, 0, 0), (161, .getfield 103, 3, 9, 24), (164, .istore 5, 2, 0, 0), (166, .iload_n 2, 1, 0, 0), (167, .bipush 8, 2, 0, 0), (169, .iconst 1, 1, 0, 0), (170, .invokestatic 146, 3, 37, 0), (173, .istore 6, 2, 0, 0), (175, .aload_n 0, 1, 0, 0), (176, .getfield 99, 3, 9, 26), (179, .iload_n 2, 1, 0, 0), (180, .bipush 9, 2, 0, 0), (182, .iconst 2, 1, 0, 0), (183, .invokestatic 146, 3, 37, 0), (186, .iadd, 1, 0, 0), (187, .istore 7, 2, 0, 0), (189, .iconst 1, 1, 0, 0), (190, .iload_n 2, 1, 0, 0), (191, .bipush 11, 2, 0, 0), (193, .iconst 3, 1, 0, 0), (194, .invokestatic 146, 3, 37, 0), (197, .iadd, 1, 0, 0), (198, .istore 8, 2, 0, 0), (200, .iconst 1, 1, 0, 0), (201, .iload_n 2, 1, 0, 0), (202, .bipush 14, 2, 0, 0), (204, .bipush 7, 2, 0, 0), (206, .invokestatic 146, 3, 37, 0), (209, .iadd, 1, 0, 0), (210, .istore 9, 2, 0, 0), (212, .iload_n 3, 1, 0, 0), (213, .iconst 0, 1, 0, 0), (214, .iconst 5, 1, 0, 0), (215, .invokestatic 146, 3, 37, 0), (218, .istore 10, 2, 0, 0), (220, .iload 6, 2, 0, 0), (222, .ifCond .ne 16, 3, 0, 0), (225, .iload 9, 2, 0, 0), (227, .iload 8, 2, 0, 0), (229, .imul, 1, 0, 0), (230, .bipush 40, 2, 0, 0), (232, .idiv, 1, 0, 0), (233, .iconst 1, 1, 0, 0), (234, .iadd, 1, 0, 0), (235, .goto 18, 3, 0, 0), (238, .iload 9, 2, 0, 0), (240, .iload 8, 2, 0, 0), (242, .imul, 1, 0, 0), (243, .bipush 20, 2, 0, 0), (245, .iconst 2, 1, 0, 0), (246, .iload 10, 2, 0, 0), (248, .imul, 1, 0, 0), (249, .iadd, 1, 0, 0), (250, .idiv, 1, 0, 0), (251, .iconst 1, 1, 0, 0), (252, .iadd, 1, 0, 0), (253, .istore 11, 2, 0, 0), (255, .iload 5, 2, 0, 0), (257, .bipush 20, 2, 0, 0), (259, .if_icmp .eq 15, 3, 0, 0), (262, .aload_n 0, 1, 0, 0), (263, .getfield 7, 3, 9, 0), (266, .iload 4, 2, 0, 0), (268, .iaload, 1, 0, 0), (269, .iload 11, 2, 0, 0), (271, .if_icmp .ge 22, 3, 0, 0), (274, .aload_n 1, 1, 0, 0), (275, .iconst 1, 1, 0, 0), (276, .iload 6, 2, 0, 0), (278, .iadd, 1, 0, 0), (279, .iload 4, 2, 0, 0), (281, .iload 7, 2, 0, 0), (283, .iload 8, 2, 0, 0), (285, .iload 9, 2, 0, 0), (287, .iload 10, 2, 0, 0), (289, .invokestatic 160, 3, 132, 0), (292, .ireturn, 1, 0, 0), (293, .aload_n 0, 1, 0, 0), (294, .getfield 19, 3, 9, 3), (297, .iload 5, 2, 0, 0), (299, .iload 6, 2, 0, 0), (301, .iastore, 1, 0, 0), (302, .aload_n 0, 1, 0, 0), (303, .getfield 22, 3, 9, 4), (306, .iload 5, 2, 0, 0), (308, .iload 4, 2, 0, 0), (310, .iastore, 1, 0, 0), (311, .aload_n 0, 1, 0, 0), (312, .getfield 25, 3, 9, 5), (315, .iload 5, 2, 0, 0), (317, .iload 7, 2, 0, 0), (319, .iastore, 1, 0, 0), (320, .aload_n 0, 1, 0, 0), (321, .getfield 28, 3, 9, 6), (324, .iload 5, 2, 0, 0), (326, .iload 8, 2, 0, 0), (328, .iastore, 1, 0, 0), (329, .aload_n 0, 1, 0, 0), (330, .getfield 31, 3, 9, 7), (333, .iload 5, 2, 0, 0), (335, .iload 9, 2, 0, 0), (337, .iastore, 1, 0, 0), (338, .aload_n 0, 1, 0, 0), (339, .getfield 34, 3, 9, 8), (342, .iload 5, 2, 0, 0), (344, .iload 10, 2, 0, 0), (346, .iastore, 1, 0, 0), (347, .aload_n 0, 1, 0, 0), (348, .getfield 37, 3, 9, 9), (351, .iload 5, 2, 0, 0), (353, .iload 10, 2, 0, 0), (355, .iload_n 3, 1, 0, 0), (356, .iconst 5, 1, 0, 0), (357, .iconst 5, 1, 0, 0), (358, .invokestatic 146, 3, 37, 0), (361, .iadd, 1, 0, 0), (362, .iastore, 1, 0, 0), (363, .aload_n 0, 1, 0, 0), (364, .getfield 40, 3, 9, 10), (367, .iload 5, 2, 0, 0), (369, .iload 11, 2, 0, 0), (371, .iastore, 1, 0, 0), (372, .aload_n 0, 1, 0, 0), (373, .getfield 7, 3, 9, 0), (376, .iload 4, 2, 0, 0), (378, .dup2, 1, 0, 0), (379, .iaload, 1, 0, 0), (380, .iload 11, 2, 0, 0), (382, .isub, 1, 0, 0), (383, .iastore, 1, 0, 0), (384, .aload_n 0, 1, 0, 0), (385, .dup, 1, 0, 0), (386, .getfield 109, 3, 9, 27), (389, .iload 11, 2, 0, 0), (391, .iadd, 1, 0, 0), (392, .putfield 109, 3, 9, 27), (395, .aload_n 0, 1, 0, 0), (396, .dup, 1, 0, 0), (397, .getfield 112, 3, 9, 28), (400, .iload 11, 2, 0, 0), (402, .iadd, 1, 0, 0), (403, .putfield 112, 3, 9, 28), (406, .aload_n 0, 1, 0, 0), (407, .dup, 1, 0, 0), (408, .getfield 103, 3, 9, 24), (411, .iconst 1, 1, 0, 0), (412, .iadd, 1, 0, 0), (413, .putfield 103, 3, 9, 24), (416, .iload 6, 2, 0, 0), (418, .ifCond .ne 27, 3, 0, 0), (421, .aload_n 1, 1, 0, 0), (422, .iload 4, 2, 0, 0), (424, .iload 7, 2, 0, 0), (426, .iload 8, 2, 0, 0), (428, .iload 9, 2, 0, 0), (430, .iload 10, 2, 0, 0), (432, .aload_n 0, 1, 0, 0), (433, .getfield 37, 3, 9, 9), (436, .iload 5, 2, 0, 0), (438, .iaload, 1, 0, 0), (439, .invokevirtual 137, 3, 129, 8), (442, .goto 17, 3, 0, 0), (445, .aload_n 1, 1, 0, 0), (446, .iload 4, 2, 0, 0), (448, .iload 7, 2, 0, 0), (450, .iload 8, 2, 0, 0), (452, .iload 9, 2, 0, 0), (454, .iload 10, 2, 0, 0), (456, .invokevirtual 141, 3, 131, 8), (459, .iload 5, 2, 0, 0), (461, .if_icmp .ne 7, 3, 0, 0), (464, .iconst 1, 1, 0, 0), (465, .goto 4, 3, 0, 0), (468, .iconst 0, 1, 0, 0), (469, .ireturn, 1, 0, 0), (470, .aload_n 0, 1, 0, 0), (471, .getfield 103, 3, 9, 24), (474, .ifCond .ne 16, 3, 0, 0), (477, .aload_n 1, 1, 0, 0), (478, .invokevirtual 164, 3, 44, 8), (481, .ifCond .ne 7, 3, 0, 0), (484, .iconst 1, 1, 0, 0), (485, .goto 4, 3, 0, 0), (488, .iconst 0, 1, 0, 0), (489, .ireturn, 1, 0, 0), (490, .iload_n 2, 1, 0, 0), (491, .bipush 8, 2, 0, 0), (493, .iconst 5, 1, 0, 0), (494, .invokestatic 146, 3, 37, 0), (497, .aload_n 0, 1, 0, 0), (498, .getfield 103, 3, 9, 24), (501, .irem, 1, 0, 0), (502, .istore 5, 2, 0, 0), (504, .aload_n 1, 1, 0, 0), (505, .iload 5, 2, 0, 0), (507, .invokevirtual 167, 3, 71, 8), (510, .aload_n 0, 1, 0, 0), (511, .iload 5, 2, 0, 0), (513, .invokevirtual 170, 3, 72, 9), (516, .if_icmp .eq 5, 3, 0, 0), (519, .iconst 0, 1, 0, 0), (520, .ireturn, 1, 0, 0), (521, .aload_n 0, 1, 0, 0), (522, .iload 5, 2, 0, 0), (524, .invokevirtual 170, 3, 72, 9), (527, .ifCond .le 15, 3, 0, 0), (530, .aload_n 1, 1, 0, 0), (531, .iconst 0, 1, 0, 0), (532, .iload 5, 2, 0, 0), (534, .iconst 0, 1, 0, 0), (535, .iconst 0, 1, 0, 0), (536, .iconst 0, 1, 0, 0), (537, .iconst 0, 1, 0, 0), (538, .invokestatic 160, 3, 132, 0), (541, .ireturn, 1, 0, 0), (542, .aload_n 0, 1, 0, 0), (543, .iload 5, 2, 0, 0), (545, .invokevirtual 173, 3, 133, 9), (548, .istore 6, 2, 0, 0), (550, .aload_n 1, 1, 0, 0), (551, .iload 5, 2, 0, 0), (553, .invokevirtual 134, 3, 122, 8), (556, .iload 6, 2, 0, 0), (558, .if_icmp .ne 7, 3, 0, 0), (561, .iconst 1, 1, 0, 0), (562, .goto 4, 3, 0, 0), (565, .iconst 0, 1, 0, 0), (566, .ireturn, 1, 0, 0), (567, .iconst 1, 1, 0, 0), (568, .iload_n 2, 1, 0, 0), (569, .bipush 8, 2, 0, 0), (571, .iconst 5, 1, 0, 0), (572, .invokestatic 146, 3, 37, 0), (575, .iadd, 1, 0, 0), (576, .istore 5, 2, 0, 0), (578, .aload_n 0, 1, 0, 0), (579, .getfield 7, 3, 9, 0), (582, .iload 4, 2, 0, 0), (584, .dup2, 1, 0, 0), (585, .iaload, 1, 0, 0), (586, .iload 5, 2, 0, 0), (588, .iadd, 1, 0, 0), (589, .iastore, 1, 0, 0), (590, .aload_n 0, 1, 0, 0), (591, .dup, 1, 0, 0), (592, .getfield 176, 3, 9, 30), (595, .iload 5, 2, 0, 0), (597, .iadd, 1, 0, 0), (598, .putfield 176, 3, 9, 30), (601, .aload_n 1, 1, 0, 0), (602, .iload 4, 2, 0, 0), (604, .iload 5, 2, 0, 0), (606, .invokevirtual 179, 3, 135, 8), (609, .aload_n 0, 1, 0, 0), (610, .getfield 7, 3, 9, 0), (613, .iload 4, 2, 0, 0), (615, .iaload, 1, 0, 0), (616, .if_icmp .ne 7, 3, 0, 0), (619, .iconst 1, 1, 0, 0), (620, .goto 4, 3, 0, 0), (623, .iconst 0, 1, 0, 0), (624, .ireturn, 1, 0, 0)])
set_option maxRecDepth 100000 in
def md_137 : a_Md := ({ cls := R_law, name := "law", desc := "([I)Z" }, code, 6, (some .boolean), [], (1, 11, 246, 600074, 7301550), (false, false, []), [(0, .new 90, 3, 8, 0), (3, .dup, 1, 0, 0), (4, .invokespecial 244, 3, 34, 0), (7, .astore_n 1, 1, 0, 0), (8, .new 8, 3, 9, 0), (11, .dup, 1, 0, 0), (12, .invokespecial 245, 3, 35, 0), (15, .astore_n 2, 1, 0, 0), (16, .aload_n 0, 1, 0, 0), (17, .iconst 0, 1, 0, 0), (18, .invokestatic 246, 3, 36, 0), (21, .istore_n 3, 1, 0, 0), (22, .aload_n 2, 1, 0, 0), (23, .iconst 1, 1, 0, 0), (24, .iload_n 3, 1, 0, 0), (25, .iconst 0, 1, 0, 0), (26, .iconst 2, 1, 0, 0), (27, .invokestatic 146, 3, 37, 0), (30, .iadd, 1, 0, 0), (31, .putfield 150, 3, 9, 22), (34, .aload_n 2, 1, 0, 0), (35, .iconst 1, 1, 0, 0), (36, .iload_n 3, 1, 0, 0), (37, .iconst 2, 1, 0, 0), (38, .iconst 4, 1, 0, 0), (39, .invokestatic 146, 3, 37, 0), (42, .iconst 3, 1, 0, 0), (43, .irem, 1, 0, 0), (44, .iadd, 1, 0, 0), (45, .putfield 118, 3, 9, 23), (48, .aload_n 2, 1, 0, 0), (49, .iconst 4, 1, 0, 0), (50, .iload_n 3, 1, 0, 0), (51, .bipush 6, 2, 0, 0), (53, .bipush 6, 2, 0, 0), (55, .invokestatic 146, 3, 37, 0), (58, .imul, 1, 0, 0), (59, .putfield 109, 3, 9, 27), (66, .ldc 252, 2, 1, 0), (71, .aload_n 2, 1, 0, 0), (72, .getfield 109, 3, 9, 27), (78, .bipush 59, 2, 0, 0), (83, .astore 4, 2, 0, 0), (85, .iconst 0, 1, 0, 0), (86, .istore 5, 2, 0, 0), (88, .iload 5, 2, 0, 0), (90, .aload_n 2, 1, 0, 0), (91, .getfield 150, 3, 9, 22), (94, .if_icmp .ge 68, 3, 0, 0), (97, .aload_n 2, 1, 0, 0), (98, .getfield 7, 3, 9, 0), (101, .iload 5, 2, 0, 0), (103, .aload_n 0, 1, 0, 0), (104, .iconst 1, 1, 0, 0), (105, .iload 5, 2, 0, 0), (107, .iadd, 1, 0, 0), (108, .invokestatic 246, 3, 36, 0), (111, .iconst 0, 1, 0, 0), (112, .bipush 8, 2, 0, 0), (114, .invokestatic 146, 3, 37, 0), (117, .iastore, 1, 0, 0), (118, .aload 4, 2, 0, 0), (120, .ldc_w 264, 3, 5, 0), (126, .bipush 97, 2, 0, 0), (128, .iload 5, 2, 0, 0), (130, .iadd, 1, 0, 0), (131, .i2c, 1, 0, 0), (135, .bipush 32, 2, 0, 0), (140, .aload_n 2, 1, 0, 0), (141, .getfield 7, 3, 9, 0), (144, .iload 5, 2, 0, 0), (146, .iaload, 1, 0, 0), (150, .bipush 59, 2, 0, 0), (155, .pop, 1, 0, 0), (156, .iinc 5 1, 3, 0, 0), (159, .goto (-71), 3, 0, 0), (162, .iconst 0, 1, 0, 0), (163, .istore 5, 2, 0, 0), (165, .iload 5, 2, 0, 0), (167, .aload_n 2, 1, 0, 0), (168, .getfield 118, 3, 9, 23), (171, .if_icmp .ge 52, 3, 0, 0), (174, .aload_n 2, 1, 0, 0), (175, .getfield 16, 3, 9, 2), (178, .iload 5, 2, 0, 0), (180, .iload_n 3, 1, 0, 0), (181, .bipush 12, 2, 0, 0), (183, .iconst 3, 1, 0, 0), (184, .iload 5, 2, 0, 0), (186, .imul, 1, 0, 0), (187, .iadd, 1, 0, 0), (188, .iconst 3, 1, 0, 0), (189, .invokestatic 146, 3, 37, 0), (192, .iastore, 1, 0, 0), (193, .aload 4, 2, 0, 0), (195, .ldc_w 269, 3, 6, 0), (201, .aload_n 2, 1, 0, 0), (202, .getfield 16, 3, 9, 2), (205, .iload 5, 2, 0, 0), (207, .iaload, 1, 0, 0), (211, .bipush 59, 2, 0, 0), (216, .pop, 1, 0, 0), (217, .iinc 5 1, 3, 0, 0), (220, .goto (-55), 3, 0, 0), (223, .aload_n 1, 1, 0, 0), (224, .aload 4, 2, 0, 0), (229, .invokestatic 275, 3, 41, 0), (232, .aload_n 1, 1, 0, 0), (233, .invokevirtual 279, 3, 33, 8), (236, .aload_n 2, 1, 0, 0), (237, .getfield 150, 3, 9, 22), (240, .if_icmp .ne 11, 3, 0, 0), (243, .aload_n 2, 1, 0, 0), (244, .aload_n 1, 1, 0, 0), (245, .invokevirtual 282, 3, 103, 9), (248, .ifCond .ne 5, 3, 0, 0), (251, .iconst 0, 1, 0, 0), (252, .ireturn, 1, 0, 0), (253, .iconst 0, 1, 0, 0), (254, .istore 5, 2, 0, 0), (256, .iload 5, 2, 0, 0), (258, .bipush 44, 2, 0, 0), (260, .if_icmp .ge 54, 3, 0, 0), (263, .aload_n 2, 1, 0, 0), (264, .aload_n 1, 1, 0, 0), (265, .aload_n 0, 1, 0, 0), (266, .iconst 5, 1, 0, 0), (267, .iload 5, 2, 0, 0), (269, .iadd, 1, 0, 0), (270, .invokestatic 246, 3, 36, 0), (273, .aload_n 0, 1, 0, 0), (274, .bipush 50, 2, 0, 0), (276, .iload 5, 2, 0, 0), (278, .iadd, 1, 0, 0), (279, .invokestatic 246, 3, 36, 0), (282, .invokevirtual 286, 3, 136, 9), (285, .ifCond .ne 5, 3, 0, 0), (288, .iconst 0, 1, 0, 0), (289, .ireturn, 1, 0, 0), (290, .iload 5, 2, 0, 0), (292, .iconst 4, 1, 0, 0), (293, .irem, 1, 0, 0), (294, .iconst 3, 1, 0, 0), (295, .if_icmp .ne 13, 3, 0, 0), (298, .aload_n 2, 1, 0, 0), (299, .aload_n 1, 1, 0, 0), (300, .invokevirtual 282, 3, 103, 9), (303, .ifCond .ne 5, 3, 0, 0), (306, .iconst 0, 1, 0, 0), (307, .ireturn, 1, 0, 0), (308, .iinc 5 1, 3, 0, 0), (311, .goto (-55), 3, 0, 0), (314, .iconst 1, 1, 0, 0), (315, .ireturn, 1, 0, 0)])
end
section
/-! The table of the methods; every row of it checked against the words. -/
theorem mf_0 : a_mfc 2 md_0 [10002, 10040, 10039] = true := by decide +kernel
theorem mf_1 : a_mfc 2 md_1 [10003, 10073, 10072] = true := by decide +kernel
theorem mf_2 : a_mfc 2 md_2 [10004, 10109, 10108] = true := by decide +kernel
theorem mf_3 : a_mfc 2 md_3 [10005, 10123, 10122] = true := by decide +kernel
theorem mf_4 : a_mfc 2 md_4 [10007, 10143, 10142] = true := by decide +kernel
theorem mf_5 : a_mfc 2 md_5 [10006, 10136, 10135] = true := by decide +kernel
theorem mf_6 : a_mfc 2 md_6 [10009, 20011, 20010] = true := by decide +kernel
theorem mf_7 : a_mfc 2 md_7 [10008, 20003, 20002] = true := by decide +kernel
theorem mf_8 : a_mfc 1 md_8 [10002, 20156, 20154, 20155] = true := by decide +kernel
theorem mf_9 : a_mfc 1 md_9 [10001, 20152, 20151, 0] = true := by decide +kernel
theorem mf_10 : a_mfc 1 md_10 [10002, 20171, 20170, 1] = true := by decide +kernel
theorem mf_11 : a_mfc 1 md_11 [10002, 20175, 20173, 20174] = true := by decide +kernel
theorem mf_12 : a_mfc 1 md_12 [10002, 20167, 20165, 20166] = true := by decide +kernel
theorem mf_13 : a_mfc 1 md_13 [10002, 20179, 20177, 20178] = true := by decide +kernel
theorem mf_14 : a_mfc 1 md_14 [10002, 20188, 20186, 20187] = true := by decide +kernel
theorem mf_15 : a_mfc 1 md_15 [10002, 20198, 20196, 20197] = true := by decide +kernel
theorem mf_16 : a_mfc 1 md_16 [10002, 20202, 20200, 20201] = true := by decide +kernel
theorem mf_17 : a_mfc 1 md_17 [10003, 20217, 20215, 20216] = true := by decide +kernel
theorem mf_18 : a_mfc 1 md_18 [10002, 20221, 20219, 20220] = true := by decide +kernel
theorem mf_19 : a_mfc 1 md_19 [10003, 20212, 20211, 4] = true := by decide +kernel
theorem mf_20 : a_mfc 1 md_20 [10003, 20208, 20206, 20207] = true := by decide +kernel
theorem mf_21 : a_mfc 1 md_21 [10003, 20225, 20224, 5] = true := by decide +kernel
theorem mf_22 : a_mfc 1 md_22 [10002, 20229, 20227, 20228] = true := by decide +kernel
theorem mf_23 : a_mfc 1 md_23 [10002, 20233, 20231, 20232] = true := by decide +kernel
theorem mf_24 : a_mfc 1 md_24 [10003, 20194, 20193, 3] = true := by decide +kernel
theorem mf_25 : a_mfc 1 md_25 [10003, 20238, 20237, 6] = true := by decide +kernel
theorem mf_26 : a_mfc 1 md_26 [10003, 30003, 30002, 7] = true := by decide +kernel
theorem mf_27 : a_mfc 1 md_27 [10003, 20183, 20182, 2] = true := by decide +kernel
theorem mf_28 : a_mfc 1 md_28 [10003, 20163, 20161, 20162] = true := by decide +kernel
theorem mf_29 : a_mfc 1 md_29 [10003, 30011, 30009, 30010] = true := by decide +kernel
theorem mf_30 : a_mfc 1 md_30 [10007, 30018, 30016, 30017] = true := by decide +kernel
theorem mf_31 : a_mfc 1 md_31 [10008, 30007, 30005, 30006] = true := by decide +kernel
theorem mf_32 : a_mfc 1 md_32 [10006, 30023, 30021, 30022] = true := by decide +kernel
theorem mf_33 : a_mfc 1 md_33 [10001, 20148, 20146, 20147] = true := by decide +kernel
theorem mf_34 : a_mfc 2 md_34 [10001, 10032, 10031] = true := by decide +kernel
theorem mf_35 : a_mfc 2 md_35 [10000, 30077, 30076] = true := by decide +kernel
theorem mf_36 : a_mfc 0 md_36 [10000, 30182, 30181] = true := by decide +kernel
theorem mf_37 : a_mfc 0 md_37 [10000, 30185, 30184] = true := by decide +kernel
theorem mf_38 : a_mfc 1 md_38 [10001, 30198, 30197, 8] = true := by decide +kernel
theorem mf_39 : a_mfc 1 md_39 [10001, 30194, 30192, 30193] = true := by decide +kernel
theorem mf_40 : a_mfc 1 md_40 [10001, 30202, 30200, 30201] = true := by decide +kernel
theorem mf_41 : a_mfc 0 md_41 [10000, 30188, 30187] = true := by decide +kernel
theorem mf_42 : a_mfc 1 md_42 [10001, 50057, 50055, 50056] = true := by decide +kernel
theorem mf_43 : a_mfc 1 md_43 [10001, 50061, 50059, 50060] = true := by decide +kernel
theorem mf_44 : a_mfc 1 md_44 [10001, 50029, 50027, 50028] = true := by decide +kernel
theorem mf_45 : a_mfc 1 md_45 [10001, 50065, 50063, 50064] = true := by decide +kernel
theorem mf_46 : a_mfc 1 md_46 [10001, 50069, 50067, 50068] = true := by decide +kernel
theorem mf_47 : a_mfc 1 md_47 [10001, 50073, 50071, 50072] = true := by decide +kernel
theorem mf_48 : a_mfc 1 md_48 [10001, 50077, 50075, 50076] = true := by decide +kernel
theorem mf_49 : a_mfc 1 md_49 [10001, 50081, 50079, 50080] = true := by decide +kernel
theorem mf_50 : a_mfc 0 md_50 [10001, 40177, 40176] = true := by decide +kernel
theorem mf_51 : a_mfc 1 md_51 [10001, 40230, 40229, 23] = true := by decide +kernel
theorem mf_52 : a_mfc 1 md_52 [10001, 50085, 50083, 50084] = true := by decide +kernel
theorem mf_53 : a_mfc 1 md_53 [10001, 40174, 40173, 21] = true := by decide +kernel
theorem mf_54 : a_mfc 0 md_54 [10001, 40095, 40094] = true := by decide +kernel
theorem mf_55 : a_mfc 0 md_55 [10001, 40098, 40097] = true := by decide +kernel
theorem mf_56 : a_mfc 1 md_56 [10009, 40092, 40090, 40091] = true := by decide +kernel
theorem mf_57 : a_mfc 1 md_57 [10001, 50089, 50087, 50088] = true := by decide +kernel
theorem mf_58 : a_mfc 1 md_58 [10009, 40084, 40082, 40083] = true := by decide +kernel
theorem mf_59 : a_mfc 1 md_59 [10008, 40080, 40078, 40079] = true := by decide +kernel
theorem mf_60 : a_mfc 1 md_60 [10001, 50094, 50092, 50093] = true := by decide +kernel
theorem mf_61 : a_mfc 1 md_61 [10000, 40158, 40157, 19] = true := by decide +kernel
theorem mf_62 : a_mfc 1 md_62 [10001, 50099, 50097, 50098] = true := by decide +kernel
theorem mf_63 : a_mfc 1 md_63 [10009, 40127, 40125, 40126] = true := by decide +kernel
theorem mf_64 : a_mfc 1 md_64 [10009, 40131, 40129, 40130] = true := by decide +kernel
theorem mf_65 : a_mfc 1 md_65 [10009, 40121, 40119, 40120] = true := by decide +kernel
theorem mf_66 : a_mfc 1 md_66 [10001, 50103, 50101, 50102] = true := by decide +kernel
theorem mf_67 : a_mfc 1 md_67 [10000, 40162, 40161, 20] = true := by decide +kernel
theorem mf_68 : a_mfc 1 md_68 [10008, 40205, 40203, 40204] = true := by decide +kernel
theorem mf_69 : a_mfc 1 md_69 [10008, 40201, 40200, 22] = true := by decide +kernel
theorem mf_70 : a_mfc 1 md_70 [10008, 40197, 40195, 40196] = true := by decide +kernel
theorem mf_71 : a_mfc 1 md_71 [10001, 50033, 50031, 50032] = true := by decide +kernel
theorem mf_72 : a_mfc 1 md_72 [10000, 50037, 50036, 27] = true := by decide +kernel
theorem mf_73 : a_mfc 1 md_73 [10001, 50112, 50111, 30] = true := by decide +kernel
theorem mf_74 : a_mfc 1 md_74 [10001, 50108, 50106, 50107] = true := by decide +kernel
theorem mf_75 : a_mfc 1 md_75 [10001, 50116, 50114, 50115] = true := by decide +kernel
theorem mf_76 : a_mfc 1 md_76 [10001, 50120, 50118, 50119] = true := by decide +kernel
theorem mf_77 : a_mfc 1 md_77 [10001, 50124, 50122, 50123] = true := by decide +kernel
theorem mf_78 : a_mfc 1 md_78 [10001, 50128, 50126, 50127] = true := by decide +kernel
theorem mf_79 : a_mfc 1 md_79 [10001, 50132, 50130, 50131] = true := by decide +kernel
theorem mf_80 : a_mfc 1 md_80 [10001, 50140, 50139, 31] = true := by decide +kernel
theorem mf_81 : a_mfc 1 md_81 [10008, 40110, 40109, 14] = true := by decide +kernel
theorem mf_82 : a_mfc 1 md_82 [10008, 40218, 40216, 40217] = true := by decide +kernel
theorem mf_83 : a_mfc 1 md_83 [10001, 50136, 50134, 50135] = true := by decide +kernel
theorem mf_84 : a_mfc 0 md_84 [10008, 40117, 40116] = true := by decide +kernel
theorem mf_85 : a_mfc 1 md_85 [10008, 50149, 50147, 50148] = true := by decide +kernel
theorem mf_86 : a_mfc 1 md_86 [10001, 50145, 50143, 50144] = true := by decide +kernel
theorem mf_87 : a_mfc 1 md_87 [10001, 50153, 50151, 50152] = true := by decide +kernel
theorem mf_88 : a_mfc 1 md_88 [10008, 40146, 40145, 17] = true := by decide +kernel
theorem mf_89 : a_mfc 1 md_89 [10008, 50161, 50159, 50160] = true := by decide +kernel
theorem mf_90 : a_mfc 1 md_90 [10001, 50157, 50155, 50156] = true := by decide +kernel
theorem mf_91 : a_mfc 1 md_91 [10003, 50176, 50174, 50175] = true := by decide +kernel
theorem mf_92 : a_mfc 0 md_92 [10005, 50172, 50171] = true := by decide +kernel
theorem mf_93 : a_mfc 0 md_93 [10005, 50179, 50178] = true := by decide +kernel
theorem mf_94 : a_mfc 0 md_94 [10005, 50182, 50181] = true := by decide +kernel
theorem mf_95 : a_mfc 1 md_95 [10005, 50197, 50196, 34] = true := by decide +kernel
theorem mf_96 : a_mfc 1 md_96 [10005, 50201, 50200, 35] = true := by decide +kernel
theorem mf_97 : a_mfc 1 md_97 [10005, 50206, 50205, 36] = true := by decide +kernel
theorem mf_98 : a_mfc 1 md_98 [10005, 50191, 50190, 33] = true := by decide +kernel
theorem mf_99 : a_mfc 1 md_99 [10005, 50187, 50186, 32] = true := by decide +kernel
theorem mf_100 : a_mfc 0 md_100 [10005, 50211, 50210] = true := by decide +kernel
theorem mf_101 : a_mfc 1 md_101 [10005, 50169, 50167, 50168] = true := by decide +kernel
theorem mf_102 : a_mfc 1 md_102 [10001, 50165, 50163, 50164] = true := by decide +kernel
theorem mg_103 : a_mf 1 md_103 := ⟨w_g_in (jo := 10000) (by decide +kernel), List.mem_filter.mpr ⟨a_ch_in 5 (List.mem_of_getElem? (i := 53) rfl), rfl⟩, by decide, rfl, (fun e => by cases e), (fun _ => ⟨w_g_in (jo := 50052) (by decide +kernel), w_g_in (jo := 29) (by decide +kernel)⟩), fun e => by cases e⟩
theorem mf_104 : a_mfc 0 md_104 [10001, 30213, 30212] = true := by decide +kernel
theorem mf_105 : a_mfc 1 md_105 [10008, 40044, 40042, 40043] = true := by decide +kernel
theorem mf_106 : a_mfc 1 md_106 [10007, 40068, 40066, 40067] = true := by decide +kernel
theorem mf_107 : a_mfc 1 md_107 [10006, 40064, 40062, 40063] = true := by decide +kernel
theorem mf_108 : a_mfc 1 md_108 [10007, 40102, 40100, 40101] = true := by decide +kernel
theorem mf_109 : a_mfc 1 md_109 [10008, 40088, 40087, 12] = true := by decide +kernel
theorem mf_110 : a_mfc 1 md_110 [10008, 40076, 40075, 11] = true := by decide +kernel
theorem mf_111 : a_mfc 1 md_111 [10008, 40106, 40105, 13] = true := by decide +kernel
theorem mf_112 : a_mfc 1 md_112 [10007, 40138, 40136, 40137] = true := by decide +kernel
theorem mf_113 : a_mfc 1 md_113 [10008, 40114, 40113, 15] = true := by decide +kernel
theorem mf_114 : a_mfc 1 md_114 [10007, 40150, 40148, 40149] = true := by decide +kernel
theorem mf_115 : a_mfc 1 md_115 [10008, 40142, 40141, 16] = true := by decide +kernel
theorem mf_116 : a_mfc 1 md_116 [10008, 40072, 40070, 40071] = true := by decide +kernel
theorem mf_117 : a_mfc 1 md_117 [10001, 30210, 30208, 30209] = true := by decide +kernel
theorem mg_118 : a_mf 1 md_118 := ⟨w_g_in (jo := 10000) (by decide +kernel), List.mem_filter.mpr ⟨a_ch_in 4 (List.mem_of_getElem? (i := 154) rfl), rfl⟩, by decide, rfl, (fun e => by cases e), (fun _ => ⟨w_g_in (jo := 40153) (by decide +kernel), w_g_in (jo := 18) (by decide +kernel)⟩), fun e => by cases e⟩
theorem mf_119 : a_mfc 1 md_119 [10008, 40214, 40212, 40213] = true := by decide +kernel
theorem mf_120 : a_mfc 1 md_120 [10007, 40222, 40220, 40221] = true := by decide +kernel
theorem mf_121 : a_mfc 1 md_121 [10008, 40210, 40208, 40209] = true := by decide +kernel
theorem mf_122 : a_mfc 1 md_122 [10001, 40170, 40168, 40169] = true := by decide +kernel
theorem mf_123 : a_mfc 1 md_123 [10001, 40234, 40233, 24] = true := by decide +kernel
theorem mf_124 : a_mfc 1 md_124 [10008, 50003, 50001, 50002] = true := by decide +kernel
theorem mf_125 : a_mfc 1 md_125 [10001, 40239, 40238, 25] = true := by decide +kernel
theorem mf_126 : a_mfc 1 md_126 [10007, 50012, 50010, 50011] = true := by decide +kernel
theorem mf_127 : a_mfc 1 md_127 [10008, 50016, 50015, 26] = true := by decide +kernel
theorem mf_128 : a_mfc 1 md_128 [10008, 50008, 50006, 50007] = true := by decide +kernel
theorem mf_129 : a_mfc 1 md_129 [10001, 40226, 40224, 40225] = true := by decide +kernel
theorem mf_130 : a_mfc 1 md_130 [10008, 50025, 50023, 50024] = true := by decide +kernel
theorem mf_131 : a_mfc 1 md_131 [10001, 50020, 50018, 50019] = true := by decide +kernel
theorem mf_132 : a_mfc 0 md_132 [10000, 40165, 40164] = true := by decide +kernel
theorem mf_133 : a_mfc 1 md_133 [10000, 50041, 50040, 28] = true := by decide +kernel
theorem mf_134 : a_mfc 1 md_134 [10007, 50049, 50047, 50048] = true := by decide +kernel
theorem mf_135 : a_mfc 1 md_135 [10001, 50045, 50043, 50044] = true := by decide +kernel
theorem mg_136 : a_mf 1 md_136 := ⟨w_g_in (jo := 10000) (by decide +kernel), List.mem_filter.mpr ⟨a_ch_in 3 (List.mem_of_getElem? (i := 206) rfl), rfl⟩, by decide, rfl, (fun e => by cases e), (fun _ => ⟨w_g_in (jo := 30205) (by decide +kernel), w_g_in (jo := 9) (by decide +kernel)⟩), fun e => by cases e⟩
def a_MK0 : List (Nat × a_Md) := [(2, md_0), (2, md_1), (2, md_2), (2, md_3), (2, md_4), (2, md_5), (2, md_6), (2, md_7), (1, md_8), (1, md_9), (1, md_10), (1, md_11), (1, md_12), (1, md_13), (1, md_14), (1, md_15), (1, md_16), (1, md_17), (1, md_18), (1, md_19)]
theorem a_hMK0 : ∀ z ∈ a_MK0, a_mf z.1 z.2 := by
  unfold a_MK0
  refine List.forall_mem_cons.mpr ⟨a_mfc_ok mf_0, List.forall_mem_cons.mpr ⟨a_mfc_ok mf_1, List.forall_mem_cons.mpr ⟨a_mfc_ok mf_2, List.forall_mem_cons.mpr ⟨a_mfc_ok mf_3, List.forall_mem_cons.mpr ⟨a_mfc_ok mf_4, List.forall_mem_cons.mpr ⟨a_mfc_ok mf_5, List.forall_mem_cons.mpr ⟨a_mfc_ok mf_6, List.forall_mem_cons.mpr ⟨a_mfc_ok mf_7, List.forall_mem_cons.mpr ⟨a_mfc_ok mf_8, List.forall_mem_cons.mpr ⟨a_mfc_ok mf_9, List.forall_mem_cons.mpr ⟨a_mfc_ok mf_10, List.forall_mem_cons.mpr ⟨a_mfc_ok mf_11, List.forall_mem_cons.mpr ⟨a_mfc_ok mf_12, List.forall_mem_cons.mpr ⟨a_mfc_ok mf_13, List.forall_mem_cons.mpr ⟨a_mfc_ok mf_14, List.forall_mem_cons.mpr ⟨a_mfc_ok mf_15, List.forall_mem_cons.mpr ⟨a_mfc_ok mf_16, List.forall_mem_cons.mpr ⟨a_mfc_ok mf_17, List.forall_mem_cons.mpr ⟨a_mfc_ok mf_18, List.forall_mem_cons.mpr ⟨a_mfc_ok mf_19, fun z hz => nomatch hz⟩⟩⟩⟩⟩⟩⟩⟩⟩⟩⟩⟩⟩⟩⟩⟩⟩⟩⟩⟩
def a_MK1 : List (Nat × a_Md) := [(1, md_20), (1, md_21), (1, md_22), (1, md_23), (1, md_24), (1, md_25), (1, md_26), (1, md_27), (1, md_28), (1, md_29), (1, md_30), (1, md_31), (1, md_32), (1, md_33), (2, md_34), (2, md_35), (0, md_36), (0, md_37), (1, md_38), (1, md_39)]
theorem a_hMK1 : ∀ z ∈ a_MK1, a_mf z.1 z.2 := by
  unfold a_MK1
  refine List.forall_mem_cons.mpr ⟨a_mfc_ok mf_20, List.forall_mem_cons.mpr ⟨a_mfc_ok mf_21, List.forall_mem_cons.mpr ⟨a_mfc_ok mf_22, List.forall_mem_cons.mpr ⟨a_mfc_ok mf_23, List.forall_mem_cons.mpr ⟨a_mfc_ok mf_24, List.forall_mem_cons.mpr ⟨a_mfc_ok mf_25, List.forall_mem_cons.mpr ⟨a_mfc_ok mf_26, List.forall_mem_cons.mpr ⟨a_mfc_ok mf_27, List.forall_mem_cons.mpr ⟨a_mfc_ok mf_28, List.forall_mem_cons.mpr ⟨a_mfc_ok mf_29, List.forall_mem_cons.mpr ⟨a_mfc_ok mf_30, List.forall_mem_cons.mpr ⟨a_mfc_ok mf_31, List.forall_mem_cons.mpr ⟨a_mfc_ok mf_32, List.forall_mem_cons.mpr ⟨a_mfc_ok mf_33, List.forall_mem_cons.mpr ⟨a_mfc_ok mf_34, List.forall_mem_cons.mpr ⟨a_mfc_ok mf_35, List.forall_mem_cons.mpr ⟨a_mfc_ok mf_36, List.forall_mem_cons.mpr ⟨a_mfc_ok mf_37, List.forall_mem_cons.mpr ⟨a_mfc_ok mf_38, List.forall_mem_cons.mpr ⟨a_mfc_ok mf_39, fun z hz => nomatch hz⟩⟩⟩⟩⟩⟩⟩⟩⟩⟩⟩⟩⟩⟩⟩⟩⟩⟩⟩⟩
def a_MK2 : List (Nat × a_Md) := [(1, md_40), (0, md_41), (1, md_42), (1, md_43), (1, md_44), (1, md_45), (1, md_46), (1, md_47), (1, md_48), (1, md_49), (0, md_50), (1, md_51), (1, md_52), (1, md_53), (0, md_54), (0, md_55), (1, md_56), (1, md_57), (1, md_58), (1, md_59)]
theorem a_hMK2 : ∀ z ∈ a_MK2, a_mf z.1 z.2 := by
  unfold a_MK2
  refine List.forall_mem_cons.mpr ⟨a_mfc_ok mf_40, List.forall_mem_cons.mpr ⟨a_mfc_ok mf_41, List.forall_mem_cons.mpr ⟨a_mfc_ok mf_42, List.forall_mem_cons.mpr ⟨a_mfc_ok mf_43, List.forall_mem_cons.mpr ⟨a_mfc_ok mf_44, List.forall_mem_cons.mpr ⟨a_mfc_ok mf_45, List.forall_mem_cons.mpr ⟨a_mfc_ok mf_46, List.forall_mem_cons.mpr ⟨a_mfc_ok mf_47, List.forall_mem_cons.mpr ⟨a_mfc_ok mf_48, List.forall_mem_cons.mpr ⟨a_mfc_ok mf_49, List.forall_mem_cons.mpr ⟨a_mfc_ok mf_50, List.forall_mem_cons.mpr ⟨a_mfc_ok mf_51, List.forall_mem_cons.mpr ⟨a_mfc_ok mf_52, List.forall_mem_cons.mpr ⟨a_mfc_ok mf_53, List.forall_mem_cons.mpr ⟨a_mfc_ok mf_54, List.forall_mem_cons.mpr ⟨a_mfc_ok mf_55, List.forall_mem_cons.mpr ⟨a_mfc_ok mf_56, List.forall_mem_cons.mpr ⟨a_mfc_ok mf_57, List.forall_mem_cons.mpr ⟨a_mfc_ok mf_58, List.forall_mem_cons.mpr ⟨a_mfc_ok mf_59, fun z hz => nomatch hz⟩⟩⟩⟩⟩⟩⟩⟩⟩⟩⟩⟩⟩⟩⟩⟩⟩⟩⟩⟩
def a_MK3 : List (Nat × a_Md) := [(1, md_60), (1, md_61), (1, md_62), (1, md_63), (1, md_64), (1, md_65), (1, md_66), (1, md_67), (1, md_68), (1, md_69), (1, md_70), (1, md_71), (1, md_72), (1, md_73), (1, md_74), (1, md_75), (1, md_76), (1, md_77), (1, md_78), (1, md_79)]
theorem a_hMK3 : ∀ z ∈ a_MK3, a_mf z.1 z.2 := by
  unfold a_MK3
  refine List.forall_mem_cons.mpr ⟨a_mfc_ok mf_60, List.forall_mem_cons.mpr ⟨a_mfc_ok mf_61, List.forall_mem_cons.mpr ⟨a_mfc_ok mf_62, List.forall_mem_cons.mpr ⟨a_mfc_ok mf_63, List.forall_mem_cons.mpr ⟨a_mfc_ok mf_64, List.forall_mem_cons.mpr ⟨a_mfc_ok mf_65, List.forall_mem_cons.mpr ⟨a_mfc_ok mf_66, List.forall_mem_cons.mpr ⟨a_mfc_ok mf_67, List.forall_mem_cons.mpr ⟨a_mfc_ok mf_68, List.forall_mem_cons.mpr ⟨a_mfc_ok mf_69, List.forall_mem_cons.mpr ⟨a_mfc_ok mf_70, List.forall_mem_cons.mpr ⟨a_mfc_ok mf_71, List.forall_mem_cons.mpr ⟨a_mfc_ok mf_72, List.forall_mem_cons.mpr ⟨a_mfc_ok mf_73, List.forall_mem_cons.mpr ⟨a_mfc_ok mf_74, List.forall_mem_cons.mpr ⟨a_mfc_ok mf_75, List.forall_mem_cons.mpr ⟨a_mfc_ok mf_76, List.forall_mem_cons.mpr ⟨a_mfc_ok mf_77, List.forall_mem_cons.mpr ⟨a_mfc_ok mf_78, List.forall_mem_cons.mpr ⟨a_mfc_ok mf_79, fun z hz => nomatch hz⟩⟩⟩⟩⟩⟩⟩⟩⟩⟩⟩⟩⟩⟩⟩⟩⟩⟩⟩⟩
def a_MK4 : List (Nat × a_Md) := [(1, md_80), (1, md_81), (1, md_82), (1, md_83), (0, md_84), (1, md_85), (1, md_86), (1, md_87), (1, md_88), (1, md_89), (1, md_90), (1, md_91), (0, md_92), (0, md_93), (0, md_94), (1, md_95), (1, md_96), (1, md_97), (1, md_98), (1, md_99)]
theorem a_hMK4 : ∀ z ∈ a_MK4, a_mf z.1 z.2 := by
  unfold a_MK4
  refine List.forall_mem_cons.mpr ⟨a_mfc_ok mf_80, List.forall_mem_cons.mpr ⟨a_mfc_ok mf_81, List.forall_mem_cons.mpr ⟨a_mfc_ok mf_82, List.forall_mem_cons.mpr ⟨a_mfc_ok mf_83, List.forall_mem_cons.mpr ⟨a_mfc_ok mf_84, List.forall_mem_cons.mpr ⟨a_mfc_ok mf_85, List.forall_mem_cons.mpr ⟨a_mfc_ok mf_86, List.forall_mem_cons.mpr ⟨a_mfc_ok mf_87, List.forall_mem_cons.mpr ⟨a_mfc_ok mf_88, List.forall_mem_cons.mpr ⟨a_mfc_ok mf_89, List.forall_mem_cons.mpr ⟨a_mfc_ok mf_90, List.forall_mem_cons.mpr ⟨a_mfc_ok mf_91, List.forall_mem_cons.mpr ⟨a_mfc_ok mf_92, List.forall_mem_cons.mpr ⟨a_mfc_ok mf_93, List.forall_mem_cons.mpr ⟨a_mfc_ok mf_94, List.forall_mem_cons.mpr ⟨a_mfc_ok mf_95, List.forall_mem_cons.mpr ⟨a_mfc_ok mf_96, List.forall_mem_cons.mpr ⟨a_mfc_ok mf_97, List.forall_mem_cons.mpr ⟨a_mfc_ok mf_98, List.forall_mem_cons.mpr ⟨a_mfc_ok mf_99, fun z hz => nomatch hz⟩⟩⟩⟩⟩⟩⟩⟩⟩⟩⟩⟩⟩⟩⟩⟩⟩⟩⟩⟩
def a_MK5 : List (Nat × a_Md) := [(0, md_100), (1, md_101), (1, md_102), (1, md_103), (0, md_104), (1, md_105), (1, md_106), (1, md_107), (1, md_108), (1, md_109), (1, md_110), (1, md_111), (1, md_112), (1, md_113), (1, md_114), (1, md_115), (1, md_116), (1, md_117), (1, md_118), (1, md_119)]
theorem a_hMK5 : ∀ z ∈ a_MK5, a_mf z.1 z.2 := by
  unfold a_MK5
  refine List.forall_mem_cons.mpr ⟨a_mfc_ok mf_100, List.forall_mem_cons.mpr ⟨a_mfc_ok mf_101, List.forall_mem_cons.mpr ⟨a_mfc_ok mf_102, List.forall_mem_cons.mpr ⟨mg_103, List.forall_mem_cons.mpr ⟨a_mfc_ok mf_104, List.forall_mem_cons.mpr ⟨a_mfc_ok mf_105, List.forall_mem_cons.mpr ⟨a_mfc_ok mf_106, List.forall_mem_cons.mpr ⟨a_mfc_ok mf_107, List.forall_mem_cons.mpr ⟨a_mfc_ok mf_108, List.forall_mem_cons.mpr ⟨a_mfc_ok mf_109, List.forall_mem_cons.mpr ⟨a_mfc_ok mf_110, List.forall_mem_cons.mpr ⟨a_mfc_ok mf_111, List.forall_mem_cons.mpr ⟨a_mfc_ok mf_112, List.forall_mem_cons.mpr ⟨a_mfc_ok mf_113, List.forall_mem_cons.mpr ⟨a_mfc_ok mf_114, List.forall_mem_cons.mpr ⟨a_mfc_ok mf_115, List.forall_mem_cons.mpr ⟨a_mfc_ok mf_116, List.forall_mem_cons.mpr ⟨a_mfc_ok mf_117, List.forall_mem_cons.mpr ⟨mg_118, List.forall_mem_cons.mpr ⟨a_mfc_ok mf_119, fun z hz => nomatch hz⟩⟩⟩⟩⟩⟩⟩⟩⟩⟩⟩⟩⟩⟩⟩⟩⟩⟩⟩⟩
def a_MK6 : List (Nat × a_Md) := [(1, md_120), (1, md_121), (1, md_122), (1, md_123), (1, md_124), (1, md_125), (1, md_126), (1, md_127), (1, md_128), (1, md_129), (1, md_130), (1, md_131), (0, md_132), (1, md_133), (1, md_134), (1, md_135), (1, md_136)]
theorem a_hMK6 : ∀ z ∈ a_MK6, a_mf z.1 z.2 := by
  unfold a_MK6
  refine List.forall_mem_cons.mpr ⟨a_mfc_ok mf_120, List.forall_mem_cons.mpr ⟨a_mfc_ok mf_121, List.forall_mem_cons.mpr ⟨a_mfc_ok mf_122, List.forall_mem_cons.mpr ⟨a_mfc_ok mf_123, List.forall_mem_cons.mpr ⟨a_mfc_ok mf_124, List.forall_mem_cons.mpr ⟨a_mfc_ok mf_125, List.forall_mem_cons.mpr ⟨a_mfc_ok mf_126, List.forall_mem_cons.mpr ⟨a_mfc_ok mf_127, List.forall_mem_cons.mpr ⟨a_mfc_ok mf_128, List.forall_mem_cons.mpr ⟨a_mfc_ok mf_129, List.forall_mem_cons.mpr ⟨a_mfc_ok mf_130, List.forall_mem_cons.mpr ⟨a_mfc_ok mf_131, List.forall_mem_cons.mpr ⟨a_mfc_ok mf_132, List.forall_mem_cons.mpr ⟨a_mfc_ok mf_133, List.forall_mem_cons.mpr ⟨a_mfc_ok mf_134, List.forall_mem_cons.mpr ⟨a_mfc_ok mf_135, List.forall_mem_cons.mpr ⟨mg_136, fun z hz => nomatch hz⟩⟩⟩⟩⟩⟩⟩⟩⟩⟩⟩⟩⟩⟩⟩⟩⟩
def a_MK : List (Nat × a_Md) := a_MK0 ++ (a_MK1 ++ (a_MK2 ++ (a_MK3 ++ (a_MK4 ++ (a_MK5 ++ (a_MK6))))))
theorem a_MK_eq : a_MK = a_MK0 ++ (a_MK1 ++ (a_MK2 ++ (a_MK3 ++ (a_MK4 ++ (a_MK5 ++ (a_MK6)))))) := rfl
theorem a_hMK : ∀ z ∈ a_MK, a_mf z.1 z.2 := by
  rw [a_MK_eq]
  intro z hz
  rcases List.mem_append.mp hz with hz | hz
  · exact a_hMK0 z hz
  rcases List.mem_append.mp hz with hz | hz
  · exact a_hMK1 z hz
  rcases List.mem_append.mp hz with hz | hz
  · exact a_hMK2 z hz
  rcases List.mem_append.mp hz with hz | hz
  · exact a_hMK3 z hz
  rcases List.mem_append.mp hz with hz | hz
  · exact a_hMK4 z hz
  rcases List.mem_append.mp hz with hz | hz
  · exact a_hMK5 z hz
  exact a_hMK6 z hz
end
section
/-! Every instruction of every method checked against the words. -/
set_option maxRecDepth 100000 in
theorem km_0 : a_km a_MK md_0 [[], [10041], [], [], [10068], [10042], [], [], [10049], [], [], [10050], []] [] = true := by decide +kernel
set_option maxRecDepth 100000 in
theorem km_1 : a_km a_MK md_1 [[], [10074], [], [], [10104], [10078], [], [], [10068], [10079], [], [], [10104], [10080], [], [], [10104], [10085], []] [] = true := by decide +kernel
set_option maxRecDepth 100000 in
theorem km_2 : a_km a_MK md_2 [[], [10110], [], [], [], [10111, 10104], [10113], []] [] = true := by decide +kernel
set_option maxRecDepth 100000 in
theorem km_3 : a_km a_MK md_3 [[], [10124], [], [], [10104], [10125], []] [] = true := by decide +kernel
set_option maxRecDepth 100000 in
theorem km_4 : a_km a_MK md_4 [[], [10144], [], [], [10104], [10153], [], [], [10228], [10161], [], [], [10104], [10168], [], [], [10104], [10172], [], [], [10104], [10174], [], [], [10104], [10178], []] [] = true := by decide +kernel
set_option maxRecDepth 100000 in
theorem km_5 : a_km a_MK md_5 [[], [10137], [], [], [10138], [10229], [], [], [], [], [], [], [10229], [], [10138, 10140, 10007], [], [10141], [], [], [], []] [] = true := by decide +kernel
set_option maxRecDepth 100000 in
theorem km_6 : a_km a_MK md_6 [[], [20012], [], [], [10104], [20013], [], [], [10104], [20016], [], [], [10228], [20019], [], [], [10104], [20022], [], [], [10104], [20024], [], [], [10104], [20027], [], [], [10104], [20029], [], [], [10104], [20031], [], [], [10104], [20034], [], [], [10104], [20037], [], [], [10104], [20039], [], [], [10104], [20043], []] [] = true := by decide +kernel
set_option maxRecDepth 100000 in
theorem km_7 : a_km a_MK md_7 [[], [20004], [], [20005, 10070, 10003], [], [20006], [20073], [], [20007, 20008, 10009], [], [20009], [20076], [], [20071, 10140, 10007], [], [20072], [20079], [], [20071, 10140, 10007], [], [20072], [20082], []] [] = true := by decide +kernel
set_option maxRecDepth 100000 in
theorem km_8 : a_km a_MK md_8 [[], [], [10042], [], [], [], [], [20157], [10043], [], [], [10046], [], [], [10049], [], [], [10050], []] [] = true := by decide +kernel
set_option maxRecDepth 100000 in
theorem km_9 : a_km a_MK md_9 [[], [30027], [], [30024], [], [30025], [20153], [], [], [30025], []] [] = true := by decide +kernel
set_option maxRecDepth 100000 in
theorem km_10 : a_km a_MK md_10 [[], [10045], [], [], [], [10043], [], [], [10042], [], [], [], [], [], [10042], [], [], [], [], [], [], [], []] [] = true := by decide +kernel
set_option maxRecDepth 100000 in
theorem km_11 : a_km a_MK md_11 [[], [10046], [], [10045], [], []] [] = true := by decide +kernel
set_option maxRecDepth 100000 in
theorem km_12 : a_km a_MK md_12 [[], [], [10046], [10045], [], [10045], [], [10043], [], [], [10042], [], [10045], [], [], [], [], [10042], [], [10045], [], [], [], [], [], [10045], [], [], [10045], [], [], [], [10045], [10046], [], [10045], [], [10043], [], [], [], [10044], [], [], [10042], [], [10045], [], [], [], [], [10042], [], [10045], [], [], [], [], [], [], [], [20168], [10046], [], [], [20172], [], [], [], [], [], [10044], [], [], [10042], [], [10045], [], [], [], [], [10042], [], [10045], [], [], [], [], [], [], [], [20168], [10046], [], [], [20172], [], [], [], [], [], [10044], [], [], [], [10045], [], [], [10046], [], [], [10042], [], [10045], [], [], [], [], [], [], [10044], []] [] = true := by decide +kernel
set_option maxRecDepth 100000 in
theorem km_13 : a_km a_MK md_13 [[], [10044], [], [], [], [], []] [] = true := by decide +kernel
set_option maxRecDepth 100000 in
theorem km_14 : a_km a_MK md_14 [[], [10044], [], [], [], [20172], [], [20189], [], [], [], [], [], [], [], [20189], [], [], [10042], [], [10045], [], [], [], [], [], [20190], [], [], [], [], [], [], []] [] = true := by decide +kernel
set_option maxRecDepth 100000 in
theorem km_15 : a_km a_MK md_15 [[], [], [10049], [], [], [10045], [10050], [], []] [] = true := by decide +kernel
set_option maxRecDepth 100000 in
theorem km_16 : a_km a_MK md_16 [[], [20203], [], [10044], [], [], [], [20172], [], [], [], [], [20204], [], [], [], [], []] [] = true := by decide +kernel
set_option maxRecDepth 100000 in
theorem km_17 : a_km a_MK md_17 [[], [10079], [], [], [], [], [], [], []] [] = true := by decide +kernel
set_option maxRecDepth 100000 in
theorem km_18 : a_km a_MK md_18 [[], [], [], [], [10046], [], [10045], [], [], [], [10042], [], [10045], [], [], [], [], [], []] [] = true := by decide +kernel
set_option maxRecDepth 100000 in
theorem km_19 : a_km a_MK md_19 [[], [10078], [], [], [], [20213], [], [], [], [], [], [], [], [10078], [], [], [], [], [], [], [20214], [], [], [20218], [], [], [], [], [], [], []] [] = true := by decide +kernel
set_option maxRecDepth 100000 in
theorem km_20 : a_km a_MK md_20 [[], [], [], [], [10075], [], [], [], [], [20209], [], [], [], [], [], [], []] [] = true := by decide +kernel
set_option maxRecDepth 100000 in
theorem km_21 : a_km a_MK md_21 [[], [10078], [], [10075], [], [20213], [], [], [], [], [], [10078], [], [10075], [], [], [], [10079], [], [10075], [], [], [], [], [], [], [20218], [], [], [], []] [] = true := by decide +kernel
set_option maxRecDepth 100000 in
theorem km_22 : a_km a_MK md_22 [[], [20203], [], [10044], [], [], [], [], [20204], [], [], [], [10048], [], [10045], [], [], [], [10046], [], [], [], [], [10048], [], [], [10042], [], [], [], [], [], [10048], [], [], [], [10048], [], [], [], [10048], [], [], [], [], [20204], [], [], [], [], []] [] = true := by decide +kernel
set_option maxRecDepth 100000 in
theorem km_23 : a_km a_MK md_23 [[], [20203], [], [10044], [], [], [], [], [20204], [], [], [], [], []] [] = true := by decide +kernel
set_option maxRecDepth 100000 in
theorem km_24 : a_km a_MK md_24 [[], [10075], [], [], [], [], [20195], [], [], [20199], [], [], [], [], [], [20205], [], [], [], [], [20195], [], [], [], [20222], [], [], [], [20226], [], [], [], [], [10080], [], [10075], [], [10047], [], [], [], [10075], [], [], [10075], [], [20230], []] [] = true := by decide +kernel
set_option maxRecDepth 100000 in
theorem km_25 : a_km a_MK md_25 [[], [10082], [], [], [], [], [20195], [], [], [], [], [20226], [], [], [], [], [10085], [], [10082], [], [10047], [], [], [], [10082], [], [], [10082], [], [20230], []] [] = true := by decide +kernel
set_option maxRecDepth 100000 in
theorem km_26 : a_km a_MK md_26 [[], [], [], [20226], [], [], [], [], [], [10047], [10087], [], [20230], []] [] = true := by decide +kernel
set_option maxRecDepth 100000 in
theorem km_27 : a_km a_MK md_27 [[], [], [20185], [], [], [], [20191], [], [], [], [20185], [], [], [], [20235], [], [], [], [20185], [], [], [], [30000], [], [], [], [20195], []] [] = true := by decide +kernel
set_option maxRecDepth 100000 in
theorem km_28 : a_km a_MK md_28 [[], [], [10075], [], [], [10082], [], [], [10087], [], [20164], [], [], [], [], [], [], [20176], [], [], [], [20180], [], [], [], [], [20164], [], [], [], [10075], [], [], [10082], [], [], [], [20195], [], [], [], [], []] [] = true := by decide +kernel
set_option maxRecDepth 100000 in
theorem km_29 : a_km a_MK md_29 [[], [], [10075], [10075], [], [10078], [], [], [10078], [], [], [30012], [], [10079], [], [], [10079], [], [], [30012], [], [10080], [], [], [10080], [], [], [30012], [], [], [10082], [10082], [], [10085], [], [], [10085], [], [], [30012], [], [], [10087], [10087], []] [] = true := by decide +kernel
set_option maxRecDepth 100000 in
theorem km_30 : a_km a_MK md_30 [[], [], [10145], [], [], [10088], [10149], [], [10081], [], [], [10153], [], [], [30019], [], [], [10157], [], [], [10164], [], [], [10181], [], [], [10185], [], [], [10189], [], [], [10191], [], [], [10194], []] [] = true := by decide +kernel
set_option maxRecDepth 100000 in
theorem km_31 : a_km a_MK md_31 [[], [20073], [], [30008], [], [20079], [], [20073], [30015], []] [] = true := by decide +kernel
set_option maxRecDepth 100000 in
theorem km_32 : a_km a_MK md_32 [[], [], [10231], []] [] = true := by decide +kernel
set_option maxRecDepth 100000 in
theorem km_33 : a_km a_MK md_33 [[], [20149], [], [30028], [], [30027], [20160], [], [], [], [], [30032], [], [30028], [30004], [], [30031], [30020], [], [], [30038], [], [30033], [10077], []] [] = true := by decide +kernel
set_option maxRecDepth 100000 in
theorem km_34 : a_km a_MK md_34 [[], [10033], [], [], [10068], [30024], [], [], [10068], [30026], [], [10036, 10037, 10002], [], [10038], [30027], [], [10069, 10070, 10003], [], [10071], [30028], [], [10105, 10106, 10004], [], [10107], [30029], [], [10119, 10120, 10005], [], [10121], [30030], [], [10132, 10133, 10006], [], [10134], [30031], [], [10239, 20000, 10008], [], [20001], [30032], [], [], [30032], [20074], [30033], [], [], [30032], [20077], [30034], [], [], [30032], [20080], [30035], [], [20092, 20008, 10009], [], [20093], [30036], [], [20094, 10140, 10007], [], [20095], [30037], [], [], [], [], [20097], [], [], [], [], [], [30024], [], [], [], [20107], [], [], [], [], [], [], [30025], [], [], [], [20145], [], []] [] = true := by decide +kernel
set_option maxRecDepth 100000 in
theorem km_35 : a_km a_MK md_35 [[], [30078], [], [], [10104], [30080], [], [], [10104], [30081], [], [], [10104], [30082], [], [], [10104], [30083], [], [], [10104], [30084], [], [], [10104], [30085], [], [], [10104], [30086], [], [], [10104], [30087], [], [], [10104], [30088], [], [], [10104], [30089], [], [], [10104], [30090], [], [], [10104], [30091], [], [], [10228], [30092], [], [], [10228], [30093], [], [], [10104], [30094], [], [], [10104], [30095], [], [], [10104], [30096], [], [], [10104], [30097], [], [], [], [30079, 10104], [30098], [], [], [10104], [30099], [], [], [10104], [30100], [], [], [10104], [30101], []] [] = true := by decide +kernel
set_option maxRecDepth 100000 in
theorem km_36 : a_km a_MK md_36 [[], [], [], [], [], [], [], [], [], [], [], [], [], []] [] = true := by decide +kernel
set_option maxRecDepth 100000 in
theorem km_37 : a_km a_MK md_37 [[], [], [], [], [], [], [], [], [], []] [] = true := by decide +kernel
set_option maxRecDepth 100000 in
theorem km_38 : a_km a_MK md_38 [[], [], [], [], [], [30025], [], [], [], [30024], [], [30025], [], [], [], [], [], [], [], [30025], [], [], [30025], [], [], []] [] = true := by decide +kernel
set_option maxRecDepth 100000 in
theorem km_39 : a_km a_MK md_39 [[], [30025], [], [], [], [], [], [], [], [], [30195], [], [], [30195], [], [], [30195], [], [], [30195], [], [], [30195], [], [30025], []] [] = true := by decide +kernel
set_option maxRecDepth 100000 in
theorem km_40 : a_km a_MK md_40 [[], [], [], [], [30025], [], [], [], [], [], [30025], [], []] [] = true := by decide +kernel
set_option maxRecDepth 100000 in
theorem km_41 : a_km a_MK md_41 [[], [], [], [], [30189], [], [], [10104], [], [], [], [], [], [], [], [], [], [], [], [], [], [], [], [], [], [], [], [], [], [30189], [], [], [], [], [], [30190], [], [], [], [], [], [], [], [], [], [], [], [], [], [], [], [], [], [], [], [], [], [], [30191], [], [], [], [], [], [30189], [30199], [], []] [] = true := by decide +kernel
set_option maxRecDepth 100000 in
theorem km_42 : a_km a_MK md_42 [[], [30035], [10148], []] [] = true := by decide +kernel
set_option maxRecDepth 100000 in
theorem km_43 : a_km a_MK md_43 [[], [30035], [10151], []] [] = true := by decide +kernel
set_option maxRecDepth 100000 in
theorem km_44 : a_km a_MK md_44 [[], [30035], [10160], []] [] = true := by decide +kernel
set_option maxRecDepth 100000 in
theorem km_45 : a_km a_MK md_45 [[], [30035], [10167], []] [] = true := by decide +kernel
set_option maxRecDepth 100000 in
theorem km_46 : a_km a_MK md_46 [[], [30035], [10190], []] [] = true := by decide +kernel
set_option maxRecDepth 100000 in
theorem km_47 : a_km a_MK md_47 [[], [30035], [10193], []] [] = true := by decide +kernel
set_option maxRecDepth 100000 in
theorem km_48 : a_km a_MK md_48 [[], [30035], [10196], []] [] = true := by decide +kernel
set_option maxRecDepth 100000 in
theorem km_49 : a_km a_MK md_49 [[], [30035], [10188], [], [30035], [10184], [], [], [30035], [10180], [], [30035], [10188], [], [], [], []] [] = true := by decide +kernel
set_option maxRecDepth 100000 in
theorem km_50 : a_km a_MK md_50 [[], [], [], [], [], []] [] = true := by decide +kernel
set_option maxRecDepth 100000 in
theorem km_51 : a_km a_MK md_51 [[], [], [30033], [10077], [40175], []] [] = true := by decide +kernel
set_option maxRecDepth 100000 in
theorem km_52 : a_km a_MK md_52 [[], [], [40227], [], [30035], [10156], [], [], []] [] = true := by decide +kernel
set_option maxRecDepth 100000 in
theorem km_53 : a_km a_MK md_53 [[], [], [30035], [10160], [40175], []] [] = true := by decide +kernel
set_option maxRecDepth 100000 in
theorem km_54 : a_km a_MK md_54 [[], [], [], [], [], [], [], []] [] = true := by decide +kernel
set_option maxRecDepth 100000 in
theorem km_55 : a_km a_MK md_55 [[], [], [], [], [], [], [], [], [], [], [], [], [], [], [], [], [], []] [] = true := by decide +kernel
set_option maxRecDepth 100000 in
theorem km_56 : a_km a_MK md_56 [[], [20019], [], [], [], [], [20027], [], [], [], [20029], [], [], [40093], [], [], [20027], [], [], [], [20029], [], [], [], [20037], [], [], [40096], []] [] = true := by decide +kernel
set_option maxRecDepth 100000 in
theorem km_57 : a_km a_MK md_57 [[], [], [40171], [], [30034], [], [50090], []] [] = true := by decide +kernel
set_option maxRecDepth 100000 in
theorem km_58 : a_km a_MK md_58 [[], [20024], [], [], [], [20027], [], [], [], []] [] = true := by decide +kernel
set_option maxRecDepth 100000 in
theorem km_59 : a_km a_MK md_59 [[], [10162], [], [], [], [], [10146], [], [20076], [], [40081], [], [], [], [], []] [] = true := by decide +kernel
set_option maxRecDepth 100000 in
theorem km_60 : a_km a_MK md_60 [[], [], [40171], [], [30032], [], [30035], [], [50095], []] [] = true := by decide +kernel
set_option maxRecDepth 100000 in
theorem km_61 : a_km a_MK md_61 [[], [30092], [], [], [], [], [30106], [], [30085], [], [], [], [30086], [], [], [], [], [], [], [], []] [] = true := by decide +kernel
set_option maxRecDepth 100000 in
theorem km_62 : a_km a_MK md_62 [[], [], [40171], [], [30035], [10163], [], [], []] [] = true := by decide +kernel
set_option maxRecDepth 100000 in
theorem km_63 : a_km a_MK md_63 [[], [20027], [], [], [], [], [], [], [20029], [], [], [], [], [], [], [], [], []] [] = true := by decide +kernel
set_option maxRecDepth 100000 in
theorem km_64 : a_km a_MK md_64 [[], [], [], [20037], [], [], [], [40132], [], [], [20029], [], [], [], [20029], [], [], [], [], [], [], [40123], []] [] = true := by decide +kernel
set_option maxRecDepth 100000 in
theorem km_65 : a_km a_MK md_65 [[], [], [], [40122], [40123], [], [], [], [], [], [], [20024], [], [], [], [], [], [], [], [20013], [], [], [], [20031], [], [], [], [], [20013], [], [], [], [20034], [], [], [], [], [], [], [20016], [], [], [], [], [], [], [], [20019], [], [], [], [], [], [], [40124], [], [], [], [], [40128], []] [] = true := by decide +kernel
end
section
/-! Every instruction of every method checked against the words. -/
set_option maxRecDepth 100000 in
theorem km_66 : a_km a_MK md_66 [[], [], [40171], [], [30034], [], [], [30035], [10148], [50104], []] [] = true := by decide +kernel
set_option maxRecDepth 100000 in
theorem km_67 : a_km a_MK md_67 [[], [30083], [], [], [], [], [30087], [], [], [], [30091], [], [], [], [], [30086], [], [], [], [], [], [30091], [], [], [], [30088], [], [], [], [], [30091], [], [], [], [30088], [], [], [], [], [], [], [], [30087], [], [], [], [], [], [], [], [], [], [30087], [], [], [], [], [30087], [], [], [], [], []] [] = true := by decide +kernel
set_option maxRecDepth 100000 in
theorem km_68 : a_km a_MK md_68 [[], [20076], [20023], [], [], [], [20076], [20023], [], [], [], [], [20076], [20020], [], [], [], [20076], [20020], [], [], [], [], [20076], [20025], [], [], [], [20076], [20025], [], [], [], [], [], [], []] [] = true := by decide +kernel
set_option maxRecDepth 100000 in
theorem km_69 : a_km a_MK md_69 [[], [], [], [], [], [], [20079], [10166], [], [], [20076], [20041], [], [], [], [], [], [], [], [], [], [], [], [40202], [], [], [], [], [], [], []] [] = true := by decide +kernel
set_option maxRecDepth 100000 in
theorem km_70 : a_km a_MK md_70 [[], [20076], [], [40081], [], [], [20079], [10162], [], [], [], [], [], [], [20079], [10146], [], [], [], [], [], [20079], [10146], [], [], [], [], [], [], [], [], [40198], []] [] = true := by decide +kernel
set_option maxRecDepth 100000 in
theorem km_71 : a_km a_MK md_71 [[], [], [40171], [], [30032], [], [40194], []] [] = true := by decide +kernel
set_option maxRecDepth 100000 in
theorem km_72 : a_km a_MK md_72 [[], [30085], [], [], [], [30086], [], [], [], [], [], [30092], [], [], [], [], [], [], [30106], [], [], [], [], [], [30106], [], [], [], [], [], [], [], [30093], [], [], [], [], [], [], [], [], [], [30104], [], [], [30093], [], [], [], [], [30084], [], [], [], [30084], [], [], [], [], [30083], [], [], [], [30083], [], [], [], [], [30085], [], [], [], [30085], [], [], [], [], [], [], [], [], []] [] = true := by decide +kernel
set_option maxRecDepth 100000 in
theorem km_73 : a_km a_MK md_73 [[], [], [30035], [10167], [40175], []] [] = true := by decide +kernel
set_option maxRecDepth 100000 in
theorem km_74 : a_km a_MK md_74 [[], [], [50109], [], [30034], [20042], [], [], []] [] = true := by decide +kernel
set_option maxRecDepth 100000 in
theorem km_75 : a_km a_MK md_75 [[], [], [50109], [], [30034], [20045], [], [], []] [] = true := by decide +kernel
set_option maxRecDepth 100000 in
theorem km_76 : a_km a_MK md_76 [[], [], [50109], [], [30035], [10171], [], [], [], [], [], [], []] [] = true := by decide +kernel
set_option maxRecDepth 100000 in
theorem km_77 : a_km a_MK md_77 [[], [], [50109], [], [30035], [10171], [], [], [], [], [], [], [], []] [] = true := by decide +kernel
set_option maxRecDepth 100000 in
theorem km_78 : a_km a_MK md_78 [[], [], [50109], [], [30035], [10171], [], [], [], [], [], [], [], []] [] = true := by decide +kernel
set_option maxRecDepth 100000 in
theorem km_79 : a_km a_MK md_79 [[], [], [50109], [], [30035], [10177], [], [], []] [] = true := by decide +kernel
set_option maxRecDepth 100000 in
theorem km_80 : a_km a_MK md_80 [[], [], [30033], [10084], [40175], []] [] = true := by decide +kernel
set_option maxRecDepth 100000 in
theorem km_81 : a_km a_MK md_81 [[], [20079], [10170], [], [], [], [], [20076], [20044], [], [], [], [], [], [], [], []] [] = true := by decide +kernel
set_option maxRecDepth 100000 in
theorem km_82 : a_km a_MK md_82 [[], [], [], [], [], [], [20079], [10166], [], [], [], [], [40107], [], [], [], [], [], []] [] = true := by decide +kernel
set_option maxRecDepth 100000 in
theorem km_83 : a_km a_MK md_83 [[], [], [50137], [], [30032], [], [50141], []] [] = true := by decide +kernel
set_option maxRecDepth 100000 in
theorem km_84 : a_km a_MK md_84 [[], [], [], []] [] = true := by decide +kernel
set_option maxRecDepth 100000 in
theorem km_85 : a_km a_MK md_85 [[], [20079], [10170], [], [], [], [], [], [], [20076], [20044], [], [], [], [], [20073], [10086], [], [], [40115], [], [], [], [], [], [], [], [], [], [], [], [40107], [], [], [], [], [20079], [10173], [], [], [], [], [], [], [], [], []] [] = true := by decide +kernel
set_option maxRecDepth 100000 in
theorem km_86 : a_km a_MK md_86 [[], [], [50109], [], [30032], [], [50146], []] [] = true := by decide +kernel
set_option maxRecDepth 100000 in
theorem km_87 : a_km a_MK md_87 [[], [], [], [30035], [10188], [], [], [], [30035], [10184], [], [], [], [30035], [10177], [], [30035], [10180], [], [], [], [], [], [], [], [], []] [] = true := by decide +kernel
set_option maxRecDepth 100000 in
theorem km_88 : a_km a_MK md_88 [[], [20076], [20023], [], [20076], [20041], [], [], [], []] [] = true := by decide +kernel
set_option maxRecDepth 100000 in
theorem km_89 : a_km a_MK md_89 [[], [], [], [], [], [], [20079], [10187], [], [], [20079], [10179], [], [], [], [], [], [40143], [], [], [], [], [20079], [10176], [], [], [], [], [], [], [], []] [] = true := by decide +kernel
set_option maxRecDepth 100000 in
theorem km_90 : a_km a_MK md_90 [[], [], [], [], [], [], [], [], [30033], [10077], [], [], [30032], [], [50158], [], [], [], [], [], [], [], [], [], [], [], []] [] = true := by decide +kernel
set_option maxRecDepth 100000 in
theorem km_91 : a_km a_MK md_91 [[], [10087], [], [], [], [], [], [10075], [], [], [], [10080], [], [], [], [], [], [], [], []] [] = true := by decide +kernel
set_option maxRecDepth 100000 in
theorem km_92 : a_km a_MK md_92 [[], [10150], [], [], [], [], [], [10076], [], [], [], [10154], [], [], [], [], [], [], [], [], [50173], [], [10195], [], [], [], [], [], []] [] = true := by decide +kernel
set_option maxRecDepth 100000 in
theorem km_93 : a_km a_MK md_93 [[], [], [], [], [], [], [], [], [10165], [], [], [10169], [], [], [], [], [], [], [], [], [], [], [], [], [], [], [], [], [], [], [], [], [], [], [], [], [10175], [], [], [], [], [], [], [], [], [], [], [], [], [], [], [], [], [], [], [], [], [], [], [], [], [], [], [], [], [], [], [10182], [], [], [], [10186], [], [], [], [], []] [] = true := by decide +kernel
set_option maxRecDepth 100000 in
theorem km_94 : a_km a_MK md_94 [[], [], [], [], [20081], [10165], [], [], [], [], [], [], [], [], [20078], [20040], [], [], [], [20078], [20040], [], [], [50183], [], [], [], [], [], [], [], [], []] [] = true := by decide +kernel
set_option maxRecDepth 100000 in
theorem km_95 : a_km a_MK md_95 [[], [10126], [], [], [], [], [10125], [], [], [], [], [], [], [], [10125], [], [], [10125], [], [], [], [], [], [], [], [], [10125], [], [], [], [], [], [10126], [], [], [10126], []] [] = true := by decide +kernel
set_option maxRecDepth 100000 in
theorem km_96 : a_km a_MK md_96 [[], [], [], [], [], [], [10126], [], [], [], [10125], [], [], [], [], [], [], [], []] [] = true := by decide +kernel
set_option maxRecDepth 100000 in
theorem km_97 : a_km a_MK md_97 [[], [], [], [], [10126], [], [], [10125], [], [], [], [], [], [], [], []] [] = true := by decide +kernel
set_option maxRecDepth 100000 in
theorem km_98 : a_km a_MK md_98 [[], [], [10126], [], [], [], [50192], [50193], [], [], [20026], [], [], [], [], [], [], [], [10126], [], [], [], [], [20021], [], [], [], [], [20014], [], [], [], [], [20017], [], [], [50194], [], [], [], [20021], [], [], [], [], [], [], [50198], [50202], [], [], [], [20033], [], [], [50203], [], [], [10126], [], [], [20036], [], [], [], [], [50203], [], [], [], [], [], [], [], [50207], []] [] = true := by decide +kernel
set_option maxRecDepth 100000 in
theorem km_99 : a_km a_MK md_99 [[], [], [], [], [10159], [], [], [], [], [], [10147], [50188], [], [], [], [10147], [50208], [], [], [], [], [], [], []] [] = true := by decide +kernel
set_option maxRecDepth 100000 in
theorem km_100 : a_km a_MK md_100 [[], [], [], [], [], [], [20075], [10076], [], [], [], [], [50212], [], [], [], [], [], [], [20081], [10192], [], [], [], [], []] [] = true := by decide +kernel
set_option maxRecDepth 100000 in
theorem km_101 : a_km a_MK md_101 [[], [20075], [], [20081], [50170], [], [], [20081], [50177], [], [], [50180], [], [], [], [20078], [], [20081], [50184], [], [], [50209], [], [], [], [], []] [] = true := by decide +kernel
set_option maxRecDepth 100000 in
theorem km_102 : a_km a_MK md_102 [[], [30030], [], [30032], [50166], []] [] = true := by decide +kernel
set_option maxRecDepth 100000 in
theorem km_104 : a_km a_MK md_104 [[], [], [], [], [], [], []] [] = true := by decide +kernel
set_option maxRecDepth 100000 in
theorem km_105 : a_km a_MK md_105 [[], [20079], [10146], [], [], [], [], [], [], [], []] [] = true := by decide +kernel
set_option maxRecDepth 100000 in
theorem km_106 : a_km a_MK md_106 [[], [], [10145], [10145], [], [], [10149], [10149], [], [10153], [], [], [10153], [], [], [30019], [], [], [10157], [10157], [], [], [], [], [], [], [10161], [], [], [10161], [], [], [], [], [], [], [], [10164], [10164], [], [10168], [], [], [10168], [], [], [30019], [], [10172], [], [], [10172], [], [], [30019], [], [10174], [], [], [10174], [], [], [30019], [], [10178], [], [], [10178], [], [], [30019], [], [], [10181], [10181], [], [], [10185], [10185], [], [], [10189], [10189], [], [], [10191], [10191], [], [], [10194], [10194], []] [] = true := by decide +kernel
set_option maxRecDepth 100000 in
theorem km_107 : a_km a_MK md_107 [[], [10229], [], [10230], [], [10231], [], [], [], [], [], [40065], [], [10231], [], [], [], [], [10231], [], [], [10231], [], [], [], [10230], [], [], [], [], [10230], []] [] = true := by decide +kernel
set_option maxRecDepth 100000 in
theorem km_108 : a_km a_MK md_108 [[], [10153], [], [], [], [], [], [], [], [], [10149], [], [], [10149], [], [], [10189], [], [], [10189], []] [] = true := by decide +kernel
set_option maxRecDepth 100000 in
theorem km_109 : a_km a_MK md_109 [[], [20076], [20023], [], [], [], [], [20076], [], [40089], [], [], [10155], [], [], [], [], [], [], [], [40099], [], [], [10162], [], [], [], []] [] = true := by decide +kernel
set_option maxRecDepth 100000 in
theorem km_110 : a_km a_MK md_110 [[], [10146], [], [], [10146], [], [], [], [], [], [], [], [], [10158], [], [], [], [], [40077], [], [], [], [], [40085], [], [], []] [] = true := by decide +kernel
set_option maxRecDepth 100000 in
theorem km_111 : a_km a_MK md_111 [[], [], [], [], [20079], [10166], [], [], [], [], [40107], [], [], [], [], [], [], []] [] = true := by decide +kernel
set_option maxRecDepth 100000 in
theorem km_112 : a_km a_MK md_112 [[], [10174], [], [], [], [], [], [], [10168], [], [], [], [], [], [10168], [], [], [], [], [10178], [], [10181], [], [], [], [], [10181], [], [], [10181], []] [] = true := by decide +kernel
set_option maxRecDepth 100000 in
theorem km_113 : a_km a_MK md_113 [[], [20079], [10173], [], [], [], [], [], [], [], [20079], [10173], [], [], [], [40115], [], [], [], [], [20076], [], [20076], [20041], [], [], [], [20079], [10146], [40118], [], [], [20079], [], [], [], [], [], [], [], [], [], [], [40135], [], []] [] = true := by decide +kernel
set_option maxRecDepth 100000 in
theorem km_114 : a_km a_MK md_114 [[], [], [10149], [], [], [10149], [], [10153], [], [], [], [], [], [], [], [], [10191], [], [], [10191], []] [] = true := by decide +kernel
set_option maxRecDepth 100000 in
theorem km_115 : a_km a_MK md_115 [[], [20079], [10187], [], [], [], [20079], [10183], [], [], [20079], [10179], [], [], [], [], [20079], [10152], [], [20079], [10176], [], [], [], [], [], [20079], [], [], [40143], [], [20079], [10176], [], [], [40147], [], [20079], [10170], [], [], [], [], [20079], [], [10187], [], [], [10187], [], [], []] [] = true := by decide +kernel
set_option maxRecDepth 100000 in
theorem km_116 : a_km a_MK md_116 [[], [], [20079], [40073], [], [20076], [20015], [], [20079], [10146], [], [], [], [20076], [20018], [], [20079], [10146], [], [], [], [20079], [], [10146], [], [], [10146], [], [], [], [], [], [], [20073], [10083], [], [], [], [40103], [], [], [], [], [], [], [], [20073], [10086], [], [], [40111], [], [], [], [], [], [40139], [], []] [] = true := by decide +kernel
set_option maxRecDepth 100000 in
theorem km_117 : a_km a_MK md_117 [[], [], [], [30211], [], [], [], [30211], [], [30032], [], [40041], [], [], [30031], [], [30035], [40061], [], [30032], [], [], [40069], []] [] = true := by decide +kernel
set_option maxRecDepth 100000 in
theorem km_119 : a_km a_MK md_119 [[], [], [], [], [], [], [20073], [10083], [], [], [], [40215], [], [], [40215], [], [], [], [], [], [], []] [] = true := by decide +kernel
set_option maxRecDepth 100000 in
theorem km_120 : a_km a_MK md_120 [[], [10168], [], [10164], [], [], [], [10172], [], [10164], [], [], [], [10174], [], [10164], [], [], [], [], [10164], [], [], [10164], [], [10164], [], [], []] [] = true := by decide +kernel
set_option maxRecDepth 100000 in
theorem km_121 : a_km a_MK md_121 [[], [40211], [], [], [20079], [40219], [], [], [20076], [20041], [], [], [], [], [20076], [20044], [], [], [], [], []] [] = true := by decide +kernel
set_option maxRecDepth 100000 in
theorem km_122 : a_km a_MK md_122 [[], [], [40171], [], [30032], [], [40194], [], [40045, 10027, 324, 303], [], [30031], [], [30035], [40061], [], [30032], [], [40207], []] [] = true := by decide +kernel
set_option maxRecDepth 100000 in
theorem km_123 : a_km a_MK md_123 [[], [], [30035], [10148], [], [30211], [], [], [], [30211], [], [], [], [30211], []] [] = true := by decide +kernel
end
section
/-! Every instruction of every method checked against the words. -/
set_option maxRecDepth 100000 in
theorem km_124 : a_km a_MK md_124 [[], [20079], [10158], [], [], [], [20079], [10155], [], [], [], [], [], [], [], []] [] = true := by decide +kernel
set_option maxRecDepth 100000 in
theorem km_125 : a_km a_MK md_125 [[], [30032], [], [], [50000], [], [40045, 10027, 382, 303], []] [] = true := by decide +kernel
set_option maxRecDepth 100000 in
theorem km_126 : a_km a_MK md_126 [[], [10161], [], [10157], [], [], [], [], [10157], [], [], [10157], [], [10157], [], [], []] [] = true := by decide +kernel
set_option maxRecDepth 100000 in
theorem km_127 : a_km a_MK md_127 [[], [20076], [20023], [], [], [], [], [20076], [20025], [], [], [], [], [20076], [20028], [], [], [], [], [20076], [20030], [], [], [], [], [20079], [], [], [20076], [], [40089], [40099], [], []] [] = true := by decide +kernel
set_option maxRecDepth 100000 in
theorem km_128 : a_km a_MK md_128 [[], [20079], [50009], [], [], [20076], [20020], [], [], [], [], [20076], [20032], [], [], [], [], [20076], [20035], [], [], [], [], [], [], [], [], [], [50013], []] [] = true := by decide +kernel
set_option maxRecDepth 100000 in
theorem km_129 : a_km a_MK md_129 [[], [], [40227], [], [], [], [], [40231], [], [], [], [30211], [], [], [], [30211], [], [], [], [], [40235], [40236], [], [30031], [], [30035], [40061], [], [30032], [], [], [], [], [], [], [50005], []] [] = true := by decide +kernel
set_option maxRecDepth 100000 in
theorem km_130 : a_km a_MK md_130 [[], [20079], [50009], [], [], [20076], [20020], [], [], [], [], [20076], [20038], [], [], [], [], [], [], [], [], [], [50013], []] [] = true := by decide +kernel
set_option maxRecDepth 100000 in
theorem km_131 : a_km a_MK md_131 [[], [], [40227], [], [], [], [], [40231], [], [], [], [30211], [], [], [], [], [], [50021], [40236], [], [30031], [], [30035], [40061], [], [30032], [], [], [], [], [], [50022], []] [] = true := by decide +kernel
set_option maxRecDepth 100000 in
theorem km_132 : a_km a_MK md_132 [[], [], [], [], [40167], [], [], [], [], [], [], [], [], [], [], [], [40223], [], [], [], [], [], [], [], [50017], [], [], [], [], [], []] [(40166, 40047)] = true := by decide +kernel
set_option maxRecDepth 100000 in
theorem km_133 : a_km a_MK md_133 [[], [], [], [], [], [], [30103], [], [], [30099], [], [], [], [30099], [], [], [], [], [], [], [], [], [30093], [], [], [], [], [30094], [], [30105], [], [], [], [30095], [], [30105], [], [], [], [30098], [], [], [], [30099], [], [], [], [30105], [], [], [30099], [], [], [], [], [], [], [], [], [30105], [], [], [30105], [], [30105], [], [], []] [] = true := by decide +kernel
set_option maxRecDepth 100000 in
theorem km_134 : a_km a_MK md_134 [[], [10153], [], [], [], [], [], [], [], [], [10194], [], [], [10194], [], [10153], [], [], []] [] = true := by decide +kernel
set_option maxRecDepth 100000 in
theorem km_135 : a_km a_MK md_135 [[], [], [40227], [], [], [], [30211], [], [30031], [], [30035], [40061], [], [30035], [], [], [50046], []] [] = true := by decide +kernel
end
section
/-! The rows of the large methods. -/
theorem ks_split {α : Type} {P : α → Prop} {l : List α} (a n : Nat) (h1 : ∀ z ∈ (l.drop a).take n, P z) (h2 : ∀ z ∈ l.drop (a + n), P z) : ∀ z ∈ l.drop a, P z := fun z hz => by
  rw [← List.take_append_drop n (l.drop a)] at hz
  rcases List.mem_append.mp hz with hz | hz
  · exact h1 z hz
  · rw [List.drop_drop] at hz
    exact h2 z hz
set_option maxRecDepth 100000 in
theorem ks_103_len : (m_is md_103).length = 283 := rfl
set_option maxRecDepth 100000 in
theorem kc_103_0 : a_kall a_MK md_103 (((m_is md_103).drop 0).take 60) [[], [50054], [], [30106], [], [], [50058], [], [30107], [], [], [50026], [], [30104], [], [], [50062], [], [30105], [], [], [50066], [], [30108], [], [], [50070], [], [30109], [], [], [50074], [], [30110], [], [], [50078], [], [30111], [], [], [], [], [30101], [], [], [], [], [], [], [], [], [], [], [], [30102], [], [], [], [50082]] = true := by decide +kernel
set_option maxRecDepth 100000 in
theorem kc_103_1 : a_kall a_MK md_103 (((m_is md_103).drop 60).take 60) [[], [30080], [], [], [], [], [], [], [30081], [], [], [], [30081], [], [], [], [], [], [], [], [], [], [], [], [30104], [], [], [], [50086], [], [30090], [], [], [], [], [], [50091], [], [], [40155], [], [], [], [50096], [], [30092], [], [], [], [], [], [50100], [], [], [40159], [], [], [], [50030], []] = true := by decide +kernel
set_option maxRecDepth 100000 in
theorem kc_103_2 : a_kall a_MK md_103 (((m_is md_103).drop 120).take 60) [[], [50034], [], [], [], [], [], [], [], [], [], [], [], [30105], [], [], [], [50105], [], [30094], [], [], [], [], [], [50113], [], [30095], [], [], [], [], [], [50117], [], [30096], [], [], [], [], [], [], [], [], [], [50121], [], [30096], [], [], [], [], [], [], [], [], [], [], [50125], []] = true := by decide +kernel
set_option maxRecDepth 100000 in
theorem kc_103_3 : a_kall a_MK md_103 (((m_is md_103).drop 180).take 60) [[30096], [], [], [], [], [], [], [], [], [], [], [50129], [], [30097], [], [], [], [], [], [], [30096], [], [], [], [], [], [], [30097], [], [], [], [], [], [], [], [], [], [], [30103], [], [], [], [50133], [], [30099], [], [], [], [], [], [], [], [], [], [30099], [], [], [], [], []] = true := by decide +kernel
set_option maxRecDepth 100000 in
theorem kc_103_4 : a_kall a_MK md_103 (((m_is md_103).drop 240).take 60) [[30098], [], [], [], [], [50142], [], [], [], [], [], [30082], [], [], [], [], [], [30100], [], [], [], [], [], [], [], [], [], [], [], [50150], [], [], [], [50154], [], [], [], [50162], [], [], [], [], []] = true := by decide +kernel
theorem ks_103 : ∀ z ∈ (m_is md_103).drop 0, a_oke (a_mt a_MK) md_103 z := by
  refine ks_split 0 60 (a_kall_ok a_hMK _ _ kc_103_0) ?_
  refine ks_split 60 60 (a_kall_ok a_hMK _ _ kc_103_1) ?_
  refine ks_split 120 60 (a_kall_ok a_hMK _ _ kc_103_2) ?_
  refine ks_split 180 60 (a_kall_ok a_hMK _ _ kc_103_3) ?_
  refine ks_split 240 60 (a_kall_ok a_hMK _ _ kc_103_4) ?_
  intro z hz
  rw [List.drop_eq_nil_of_le (by rw [ks_103_len]; decide)] at hz
  cases hz
theorem ko_103 : a_okm (a_mt a_MK) md_103 := ⟨by decide +kernel, ks_103, Or.inl rfl, (fun e => by cases e), fun hne => absurd rfl hne⟩
set_option maxRecDepth 100000 in
theorem ks_118_len : (m_is md_118).length = 385 := rfl
set_option maxRecDepth 100000 in
theorem kc_118_0 : a_kall a_MK md_118 (((m_is md_118).drop 0).take 60) [[], [30106], [], [], [30106], [], [], [], [], [], [], [], [30104], [], [], [], [40155], [], [], [], [30080], [], [30084], [], [], [], [], [30090], [], [], [], [], [30092], [], [], [], [], [], [30080], [], [30084], [], [], [], [], [], [30090], [], [], [], [], [], [], [30107], [], [30090], [], [], [], [30107]] = true := by decide +kernel
set_option maxRecDepth 100000 in
theorem kc_118_1 : a_kall a_MK md_118 (((m_is md_118).drop 60).take 60) [[], [], [30108], [], [30090], [], [], [], [30108], [], [], [], [], [], [], [30104], [], [], [30106], [], [30085], [], [], [], [], [30106], [], [30085], [], [], [], [30086], [], [], [], [], [], [], [30083], [], [], [], [], [], [30091], [], [], [], [], [], [], [], [], [], [30088], [], [], [], [], []] = true := by decide +kernel
set_option maxRecDepth 100000 in
theorem kc_118_2 : a_kall a_MK md_118 (((m_is md_118).drop 120).take 60) [[30089], [], [], [], [], [30091], [], [], [], [], [], [], [], [], [], [], [30106], [], [], [30106], [], [30112], [], [], [], [], [], [30103], [], [], [30099], [], [], [], [], [], [30100], [], [], [], [], [], [], [], [30100], [], [], [], [], [30082], [], [], [], [], [], [], [30098], [], [], []] = true := by decide +kernel
set_option maxRecDepth 100000 in
theorem kc_118_3 : a_kall a_MK md_118 (((m_is md_118).drop 180).take 60) [[], [], [], [30100], [], [], [], [], [30099], [], [], [], [], [], [], [], [], [], [], [30099], [], [], [], [], [30098], [], [], [], [], [30098], [], [], [], [], [], [], [], [], [], [], [], [30094], [], [], [40159], [], [], [30097], [], [], [], [], [30082], [], [], [], [], [], [], []] = true := by decide +kernel
set_option maxRecDepth 100000 in
theorem kc_118_4 : a_kall a_MK md_118 (((m_is md_118).drop 240).take 60) [[], [], [], [30096], [], [], [30097], [], [], [], [], [], [], [], [], [], [30112], [], [], [30112], [], [30096], [], [], [], [], [], [30101], [], [30111], [], [], [], [], [30111], [], [], [30111], [], [], [], [30111], [], [], [30107], [], [30097], [], [30101], [], [], [], [], [], [30101], [], [], [], [], []] = true := by decide +kernel
set_option maxRecDepth 100000 in
theorem kc_118_5 : a_kall a_MK md_118 (((m_is md_118).drop 300).take 60) [[30111], [], [], [30111], [], [], [], [], [30111], [], [], [30101], [], [], [30101], [], [], [], [], [], [], [], [], [30096], [], [], [], [], [], [30107], [], [30097], [], [], [], [30107], [], [30080], [], [30084], [], [30094], [], [], [], [], [], [], [30097], [], [], [], [], [], [30081], [], [30084], [], [30094], []] = true := by decide +kernel
set_option maxRecDepth 100000 in
theorem kc_118_6 : a_kall a_MK md_118 (((m_is md_118).drop 360).take 60) [[], [], [], [], [], [30097], [], [], [], [], [], [], [30109], [], [30097], [], [], [], [30109], [], [], [30112], [], [], []] = true := by decide +kernel
theorem ks_118 : ∀ z ∈ (m_is md_118).drop 0, a_oke (a_mt a_MK) md_118 z := by
  refine ks_split 0 60 (a_kall_ok a_hMK _ _ kc_118_0) ?_
  refine ks_split 60 60 (a_kall_ok a_hMK _ _ kc_118_1) ?_
  refine ks_split 120 60 (a_kall_ok a_hMK _ _ kc_118_2) ?_
  refine ks_split 180 60 (a_kall_ok a_hMK _ _ kc_118_3) ?_
  refine ks_split 240 60 (a_kall_ok a_hMK _ _ kc_118_4) ?_
  refine ks_split 300 60 (a_kall_ok a_hMK _ _ kc_118_5) ?_
  refine ks_split 360 60 (a_kall_ok a_hMK _ _ kc_118_6) ?_
  intro z hz
  rw [List.drop_eq_nil_of_le (by rw [ks_118_len]; decide)] at hz
  cases hz
theorem ko_118 : a_okm (a_mt a_MK) md_118 := ⟨by decide +kernel, ks_118, Or.inl rfl, (fun e => by cases e), fun hne => absurd rfl hne⟩
set_option maxRecDepth 100000 in
theorem ks_136_len : (m_is md_136).length = 314 := rfl
set_option maxRecDepth 100000 in
theorem kc_136_0 : a_kall a_MK md_136 (((m_is md_136).drop 0).take 60) [[], [], [], [30183], [], [30102], [], [], [], [], [], [30183], [], [], [], [], [], [], [], [30183], [], [], [], [], [], [], [30183], [], [], [], [], [], [], [], [], [30183], [], [], [], [], [30207], [], [], [], [40151], [], [], [], [], [], [], [], [], [30104], [], [], [], [], [30183], []] = true := by decide +kernel
set_option maxRecDepth 100000 in
theorem kc_136_1 : a_kall a_MK md_136 (((m_is md_136).drop 60).take 60) [[], [30106], [], [], [], [30183], [], [], [], [], [], [], [30183], [], [], [], [], [], [], [30183], [], [], [], [], [], [30183], [], [], [], [], [], [], [], [], [], [], [], [], [], [], [], [], [], [], [], [], [], [], [], [], [], [], [], [30080], [], [], [], [], [], []] = true := by decide +kernel
set_option maxRecDepth 100000 in
theorem kc_136_2 : a_kall a_MK md_136 (((m_is md_136).drop 120).take 60) [[], [], [], [], [], [], [], [40163], [], [], [30083], [], [], [], [], [30084], [], [], [], [], [30085], [], [], [], [], [30086], [], [], [], [], [30087], [], [], [], [], [30088], [], [], [], [], [30089], [], [], [], [], [], [30183], [], [], [], [30090], [], [], [], [], [30080], [], [], [], []] = true := by decide +kernel
set_option maxRecDepth 100000 in
theorem kc_136_3 : a_kall a_MK md_136 (((m_is md_136).drop 180).take 60) [[], [], [], [], [30107], [], [], [30107], [], [], [30108], [], [], [30108], [], [], [30104], [], [], [30104], [], [], [], [], [], [], [], [], [], [30089], [], [], [40223], [], [], [], [], [], [], [], [50017], [], [], [], [], [], [], [], [30104], [], [], [50026], [], [], [], [], [], [], [], []] = true := by decide +kernel
set_option maxRecDepth 100000 in
theorem kc_136_4 : a_kall a_MK md_136 (((m_is md_136).drop 240).take 60) [[30183], [], [30104], [], [], [], [], [50030], [], [], [50034], [], [], [], [], [], [50034], [], [], [], [], [], [], [], [], [40163], [], [], [], [50038], [], [], [], [40167], [], [], [], [], [], [], [], [], [], [], [30183], [], [], [], [30080], [], [], [], [], [], [], [], [], [30110], [], []] = true := by decide +kernel
set_option maxRecDepth 100000 in
theorem kc_136_5 : a_kall a_MK md_136 (((m_is md_136).drop 300).take 60) [[30110], [], [], [], [50042], [], [30080], [], [], [], [], [], [], []] = true := by decide +kernel
theorem ks_136 : ∀ z ∈ (m_is md_136).drop 0, a_oke (a_mt a_MK) md_136 z := by
  refine ks_split 0 60 (a_kall_ok a_hMK _ _ kc_136_0) ?_
  refine ks_split 60 60 (a_kall_ok a_hMK _ _ kc_136_1) ?_
  refine ks_split 120 60 (a_kall_ok a_hMK _ _ kc_136_2) ?_
  refine ks_split 180 60 (a_kall_ok a_hMK _ _ kc_136_3) ?_
  refine ks_split 240 60 (a_kall_ok a_hMK _ _ kc_136_4) ?_
  refine ks_split 300 60 (a_kall_ok a_hMK _ _ kc_136_5) ?_
  intro z hz
  rw [List.drop_eq_nil_of_le (by rw [ks_136_len]; decide)] at hz
  cases hz
theorem ko_136 : a_okm (a_mt a_MK) md_136 := ⟨by decide +kernel, ks_136, Or.inl rfl, (fun e => by cases e), fun hne => absurd rfl hne⟩
set_option maxRecDepth 100000 in
theorem ks_137_len : (m_is md_137).length = 154 := rfl
set_option maxRecDepth 100000 in
theorem kc_137_0 : a_kall a_MK md_137 (((m_is md_137).drop 0).take 60) [[10028, 10029, 10001], [], [10030], [], [30073, 30074, 10000], [], [30075], [], [], [], [30180], [], [], [], [], [], [], [30183], [], [30102], [], [], [], [], [], [30183], [], [], [], [30103], [], [], [], [], [], [30183], [], [30107], [], [], [30107], [], [], [], [], [], [], [30102], [], [], [30080], [], [], [], [], [], [30180], [], [], [30183]] = true := by decide +kernel
set_option maxRecDepth 100000 in
theorem kc_137_1 : a_kall a_MK md_137 (((m_is md_137).drop 60).take 60) [[], [], [], [], [], [], [], [], [], [30080], [], [], [], [], [], [], [], [], [], [], [30103], [], [], [30082], [], [], [], [], [], [], [], [], [30183], [], [], [], [], [30082], [], [], [], [], [], [], [], [], [30186], [], [30072], [], [30102], [], [], [], [50050], [], [], [], [], []] = true := by decide +kernel
set_option maxRecDepth 100000 in
theorem kc_137_2 : a_kall a_MK md_137 (((m_is md_137).drop 120).take 60) [[], [], [], [], [], [], [], [], [], [30180], [], [], [], [], [30180], [30203], [], [], [], [], [], [], [], [], [], [], [50050], [], [], [], [], [], [], []] = true := by decide +kernel
theorem ks_137 : ∀ z ∈ (m_is md_137).drop 0, a_oke (a_mt a_MK) md_137 z := by
  refine ks_split 0 60 (a_kall_ok a_hMK _ _ kc_137_0) ?_
  refine ks_split 60 60 (a_kall_ok a_hMK _ _ kc_137_1) ?_
  refine ks_split 120 60 (a_kall_ok a_hMK _ _ kc_137_2) ?_
  intro z hz
  rw [List.drop_eq_nil_of_le (by rw [ks_137_len]; decide)] at hz
  cases hz
theorem ko_137 : a_okm (a_mt a_MK) md_137 := ⟨by decide +kernel, ks_137, Or.inl rfl, (fun e => by cases e), fun hne => absurd rfl hne⟩
end
section
/-! The table is good. -/
def a_MT : Nat → Option a_Md := a_mt a_MK
theorem a_mt_mem {P : a_Md → Prop} {MK : List (Nat × a_Md)} (h : ∀ z ∈ MK, P z.2) : ∀ i y, a_mt MK i = some y → P y := fun i y hy => by
  obtain ⟨k, hk⟩ := a_mt_some hy
  exact h _ (List.mem_of_getElem? hk)
theorem a_oMK0 : ∀ z ∈ a_MK0, a_okm (a_mt a_MK) z.2 := by
  unfold a_MK0
  refine List.forall_mem_cons.mpr ⟨a_km_ok a_hMK km_0, List.forall_mem_cons.mpr ⟨a_km_ok a_hMK km_1, List.forall_mem_cons.mpr ⟨a_km_ok a_hMK km_2, List.forall_mem_cons.mpr ⟨a_km_ok a_hMK km_3, List.forall_mem_cons.mpr ⟨a_km_ok a_hMK km_4, List.forall_mem_cons.mpr ⟨a_km_ok a_hMK km_5, List.forall_mem_cons.mpr ⟨a_km_ok a_hMK km_6, List.forall_mem_cons.mpr ⟨a_km_ok a_hMK km_7, List.forall_mem_cons.mpr ⟨a_km_ok a_hMK km_8, List.forall_mem_cons.mpr ⟨a_km_ok a_hMK km_9, List.forall_mem_cons.mpr ⟨a_km_ok a_hMK km_10, List.forall_mem_cons.mpr ⟨a_km_ok a_hMK km_11, List.forall_mem_cons.mpr ⟨a_km_ok a_hMK km_12, List.forall_mem_cons.mpr ⟨a_km_ok a_hMK km_13, List.forall_mem_cons.mpr ⟨a_km_ok a_hMK km_14, List.forall_mem_cons.mpr ⟨a_km_ok a_hMK km_15, List.forall_mem_cons.mpr ⟨a_km_ok a_hMK km_16, List.forall_mem_cons.mpr ⟨a_km_ok a_hMK km_17, List.forall_mem_cons.mpr ⟨a_km_ok a_hMK km_18, List.forall_mem_cons.mpr ⟨a_km_ok a_hMK km_19, fun z hz => nomatch hz⟩⟩⟩⟩⟩⟩⟩⟩⟩⟩⟩⟩⟩⟩⟩⟩⟩⟩⟩⟩
theorem a_oMK1 : ∀ z ∈ a_MK1, a_okm (a_mt a_MK) z.2 := by
  unfold a_MK1
  refine List.forall_mem_cons.mpr ⟨a_km_ok a_hMK km_20, List.forall_mem_cons.mpr ⟨a_km_ok a_hMK km_21, List.forall_mem_cons.mpr ⟨a_km_ok a_hMK km_22, List.forall_mem_cons.mpr ⟨a_km_ok a_hMK km_23, List.forall_mem_cons.mpr ⟨a_km_ok a_hMK km_24, List.forall_mem_cons.mpr ⟨a_km_ok a_hMK km_25, List.forall_mem_cons.mpr ⟨a_km_ok a_hMK km_26, List.forall_mem_cons.mpr ⟨a_km_ok a_hMK km_27, List.forall_mem_cons.mpr ⟨a_km_ok a_hMK km_28, List.forall_mem_cons.mpr ⟨a_km_ok a_hMK km_29, List.forall_mem_cons.mpr ⟨a_km_ok a_hMK km_30, List.forall_mem_cons.mpr ⟨a_km_ok a_hMK km_31, List.forall_mem_cons.mpr ⟨a_km_ok a_hMK km_32, List.forall_mem_cons.mpr ⟨a_km_ok a_hMK km_33, List.forall_mem_cons.mpr ⟨a_km_ok a_hMK km_34, List.forall_mem_cons.mpr ⟨a_km_ok a_hMK km_35, List.forall_mem_cons.mpr ⟨a_km_ok a_hMK km_36, List.forall_mem_cons.mpr ⟨a_km_ok a_hMK km_37, List.forall_mem_cons.mpr ⟨a_km_ok a_hMK km_38, List.forall_mem_cons.mpr ⟨a_km_ok a_hMK km_39, fun z hz => nomatch hz⟩⟩⟩⟩⟩⟩⟩⟩⟩⟩⟩⟩⟩⟩⟩⟩⟩⟩⟩⟩
theorem a_oMK2 : ∀ z ∈ a_MK2, a_okm (a_mt a_MK) z.2 := by
  unfold a_MK2
  refine List.forall_mem_cons.mpr ⟨a_km_ok a_hMK km_40, List.forall_mem_cons.mpr ⟨a_km_ok a_hMK km_41, List.forall_mem_cons.mpr ⟨a_km_ok a_hMK km_42, List.forall_mem_cons.mpr ⟨a_km_ok a_hMK km_43, List.forall_mem_cons.mpr ⟨a_km_ok a_hMK km_44, List.forall_mem_cons.mpr ⟨a_km_ok a_hMK km_45, List.forall_mem_cons.mpr ⟨a_km_ok a_hMK km_46, List.forall_mem_cons.mpr ⟨a_km_ok a_hMK km_47, List.forall_mem_cons.mpr ⟨a_km_ok a_hMK km_48, List.forall_mem_cons.mpr ⟨a_km_ok a_hMK km_49, List.forall_mem_cons.mpr ⟨a_km_ok a_hMK km_50, List.forall_mem_cons.mpr ⟨a_km_ok a_hMK km_51, List.forall_mem_cons.mpr ⟨a_km_ok a_hMK km_52, List.forall_mem_cons.mpr ⟨a_km_ok a_hMK km_53, List.forall_mem_cons.mpr ⟨a_km_ok a_hMK km_54, List.forall_mem_cons.mpr ⟨a_km_ok a_hMK km_55, List.forall_mem_cons.mpr ⟨a_km_ok a_hMK km_56, List.forall_mem_cons.mpr ⟨a_km_ok a_hMK km_57, List.forall_mem_cons.mpr ⟨a_km_ok a_hMK km_58, List.forall_mem_cons.mpr ⟨a_km_ok a_hMK km_59, fun z hz => nomatch hz⟩⟩⟩⟩⟩⟩⟩⟩⟩⟩⟩⟩⟩⟩⟩⟩⟩⟩⟩⟩
theorem a_oMK3 : ∀ z ∈ a_MK3, a_okm (a_mt a_MK) z.2 := by
  unfold a_MK3
  refine List.forall_mem_cons.mpr ⟨a_km_ok a_hMK km_60, List.forall_mem_cons.mpr ⟨a_km_ok a_hMK km_61, List.forall_mem_cons.mpr ⟨a_km_ok a_hMK km_62, List.forall_mem_cons.mpr ⟨a_km_ok a_hMK km_63, List.forall_mem_cons.mpr ⟨a_km_ok a_hMK km_64, List.forall_mem_cons.mpr ⟨a_km_ok a_hMK km_65, List.forall_mem_cons.mpr ⟨a_km_ok a_hMK km_66, List.forall_mem_cons.mpr ⟨a_km_ok a_hMK km_67, List.forall_mem_cons.mpr ⟨a_km_ok a_hMK km_68, List.forall_mem_cons.mpr ⟨a_km_ok a_hMK km_69, List.forall_mem_cons.mpr ⟨a_km_ok a_hMK km_70, List.forall_mem_cons.mpr ⟨a_km_ok a_hMK km_71, List.forall_mem_cons.mpr ⟨a_km_ok a_hMK km_72, List.forall_mem_cons.mpr ⟨a_km_ok a_hMK km_73, List.forall_mem_cons.mpr ⟨a_km_ok a_hMK km_74, List.forall_mem_cons.mpr ⟨a_km_ok a_hMK km_75, List.forall_mem_cons.mpr ⟨a_km_ok a_hMK km_76, List.forall_mem_cons.mpr ⟨a_km_ok a_hMK km_77, List.forall_mem_cons.mpr ⟨a_km_ok a_hMK km_78, List.forall_mem_cons.mpr ⟨a_km_ok a_hMK km_79, fun z hz => nomatch hz⟩⟩⟩⟩⟩⟩⟩⟩⟩⟩⟩⟩⟩⟩⟩⟩⟩⟩⟩⟩
theorem a_oMK4 : ∀ z ∈ a_MK4, a_okm (a_mt a_MK) z.2 := by
  unfold a_MK4
  refine List.forall_mem_cons.mpr ⟨a_km_ok a_hMK km_80, List.forall_mem_cons.mpr ⟨a_km_ok a_hMK km_81, List.forall_mem_cons.mpr ⟨a_km_ok a_hMK km_82, List.forall_mem_cons.mpr ⟨a_km_ok a_hMK km_83, List.forall_mem_cons.mpr ⟨a_km_ok a_hMK km_84, List.forall_mem_cons.mpr ⟨a_km_ok a_hMK km_85, List.forall_mem_cons.mpr ⟨a_km_ok a_hMK km_86, List.forall_mem_cons.mpr ⟨a_km_ok a_hMK km_87, List.forall_mem_cons.mpr ⟨a_km_ok a_hMK km_88, List.forall_mem_cons.mpr ⟨a_km_ok a_hMK km_89, List.forall_mem_cons.mpr ⟨a_km_ok a_hMK km_90, List.forall_mem_cons.mpr ⟨a_km_ok a_hMK km_91, List.forall_mem_cons.mpr ⟨a_km_ok a_hMK km_92, List.forall_mem_cons.mpr ⟨a_km_ok a_hMK km_93, List.forall_mem_cons.mpr ⟨a_km_ok a_hMK km_94, List.forall_mem_cons.mpr ⟨a_km_ok a_hMK km_95, List.forall_mem_cons.mpr ⟨a_km_ok a_hMK km_96, List.forall_mem_cons.mpr ⟨a_km_ok a_hMK km_97, List.forall_mem_cons.mpr ⟨a_km_ok a_hMK km_98, List.forall_mem_cons.mpr ⟨a_km_ok a_hMK km_99, fun z hz => nomatch hz⟩⟩⟩⟩⟩⟩⟩⟩⟩⟩⟩⟩⟩⟩⟩⟩⟩⟩⟩⟩
theorem a_oMK5 : ∀ z ∈ a_MK5, a_okm (a_mt a_MK) z.2 := by
  unfold a_MK5
  refine List.forall_mem_cons.mpr ⟨a_km_ok a_hMK km_100, List.forall_mem_cons.mpr ⟨a_km_ok a_hMK km_101, List.forall_mem_cons.mpr ⟨a_km_ok a_hMK km_102, List.forall_mem_cons.mpr ⟨ko_103, List.forall_mem_cons.mpr ⟨a_km_ok a_hMK km_104, List.forall_mem_cons.mpr ⟨a_km_ok a_hMK km_105, List.forall_mem_cons.mpr ⟨a_km_ok a_hMK km_106, List.forall_mem_cons.mpr ⟨a_km_ok a_hMK km_107, List.forall_mem_cons.mpr ⟨a_km_ok a_hMK km_108, List.forall_mem_cons.mpr ⟨a_km_ok a_hMK km_109, List.forall_mem_cons.mpr ⟨a_km_ok a_hMK km_110, List.forall_mem_cons.mpr ⟨a_km_ok a_hMK km_111, List.forall_mem_cons.mpr ⟨a_km_ok a_hMK km_112, List.forall_mem_cons.mpr ⟨a_km_ok a_hMK km_113, List.forall_mem_cons.mpr ⟨a_km_ok a_hMK km_114, List.forall_mem_cons.mpr ⟨a_km_ok a_hMK km_115, List.forall_mem_cons.mpr ⟨a_km_ok a_hMK km_116, List.forall_mem_cons.mpr ⟨a_km_ok a_hMK km_117, List.forall_mem_cons.mpr ⟨ko_118, List.forall_mem_cons.mpr ⟨a_km_ok a_hMK km_119, fun z hz => nomatch hz⟩⟩⟩⟩⟩⟩⟩⟩⟩⟩⟩⟩⟩⟩⟩⟩⟩⟩⟩⟩
theorem a_oMK6 : ∀ z ∈ a_MK6, a_okm (a_mt a_MK) z.2 := by
  unfold a_MK6
  refine List.forall_mem_cons.mpr ⟨a_km_ok a_hMK km_120, List.forall_mem_cons.mpr ⟨a_km_ok a_hMK km_121, List.forall_mem_cons.mpr ⟨a_km_ok a_hMK km_122, List.forall_mem_cons.mpr ⟨a_km_ok a_hMK km_123, List.forall_mem_cons.mpr ⟨a_km_ok a_hMK km_124, List.forall_mem_cons.mpr ⟨a_km_ok a_hMK km_125, List.forall_mem_cons.mpr ⟨a_km_ok a_hMK km_126, List.forall_mem_cons.mpr ⟨a_km_ok a_hMK km_127, List.forall_mem_cons.mpr ⟨a_km_ok a_hMK km_128, List.forall_mem_cons.mpr ⟨a_km_ok a_hMK km_129, List.forall_mem_cons.mpr ⟨a_km_ok a_hMK km_130, List.forall_mem_cons.mpr ⟨a_km_ok a_hMK km_131, List.forall_mem_cons.mpr ⟨a_km_ok a_hMK km_132, List.forall_mem_cons.mpr ⟨a_km_ok a_hMK km_133, List.forall_mem_cons.mpr ⟨a_km_ok a_hMK km_134, List.forall_mem_cons.mpr ⟨a_km_ok a_hMK km_135, List.forall_mem_cons.mpr ⟨ko_136, fun z hz => nomatch hz⟩⟩⟩⟩⟩⟩⟩⟩⟩⟩⟩⟩⟩⟩⟩⟩⟩
theorem a_oMK : ∀ z ∈ a_MK, a_okm (a_mt a_MK) z.2 := by
  rw [a_MK_eq]
  intro z hz
  rcases List.mem_append.mp hz with hz | hz
  · exact a_MK_eq ▸ a_oMK0 z hz
  rcases List.mem_append.mp hz with hz | hz
  · exact a_MK_eq ▸ a_oMK1 z hz
  rcases List.mem_append.mp hz with hz | hz
  · exact a_MK_eq ▸ a_oMK2 z hz
  rcases List.mem_append.mp hz with hz | hz
  · exact a_MK_eq ▸ a_oMK3 z hz
  rcases List.mem_append.mp hz with hz | hz
  · exact a_MK_eq ▸ a_oMK4 z hz
  rcases List.mem_append.mp hz with hz | hz
  · exact a_MK_eq ▸ a_oMK5 z hz
  exact a_MK_eq ▸ a_oMK6 z hz
theorem a_MT_ok : ∀ i y, a_MT i = some y → a_okm a_MT y := a_mt_mem a_oMK
theorem a_law_ok : a_okm a_MT md_137 := ko_137
theorem a_law_q : a_lawq md_137 := ⟨rfl, rfl, rfl, rfl, rfl, rfl, by decide, by decide⟩
end
