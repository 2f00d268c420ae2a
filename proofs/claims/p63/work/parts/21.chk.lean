/-! The methods' table, checked by program. -/
def a_ch (j : Nat) : List Cond := match j with
  | 0 => k2_sels lw_privs
  | 1 => tables_1_1
  | 2 => tables_1_2
  | 3 => tables_1_3
  | 4 => tables_1_4
  | 5 => tables_1_5
  | 6 => tables_1_6
  | _ => []
theorem a_ch_in (j : Nat) {w : Cond} (h : w ∈ a_ch j) : w ∈ lw_tbl := by
  unfold lw_tbl tables_1
  simp only [List.mem_append]
  unfold a_ch at h
  split at h
  · exact Or.inl h
  · exact Or.inr (Or.inl h)
  · exact Or.inr (Or.inr (Or.inl h))
  · exact Or.inr (Or.inr (Or.inr (Or.inl h)))
  · exact Or.inr (Or.inr (Or.inr (Or.inr (Or.inl h))))
  · exact Or.inr (Or.inr (Or.inr (Or.inr (Or.inr (Or.inl h)))))
  · exact Or.inr (Or.inr (Or.inr (Or.inr (Or.inr (Or.inr h)))))
  · cases h
/-- a good word at its place -/
def w_g (jo : Nat) (w : Cond) : Bool := goodWord w && decide ((a_ch (jo / 10000))[jo % 10000]? = some w)
def w_n (jo : Nat) (w : Cond) : Bool := a_isn w && decide ((a_ch (jo / 10000))[jo % 10000]? = some w)
theorem w_g_in {jo : Nat} {w : Cond} (h : w_g jo w = true) : w ∈ lw_good := by
  unfold w_g at h
  rw [Bool.and_eq_true, decide_eq_true_eq] at h
  exact List.mem_filter.mpr ⟨a_ch_in _ (List.mem_of_getElem? h.2), h.1⟩
theorem w_n_in {jo : Nat} {w : Cond} (h : w_n jo w = true) : w ∈ a_nest := by
  unfold w_n at h
  rw [Bool.and_eq_true, decide_eq_true_eq] at h
  exact List.mem_filter.mpr ⟨a_ch_in _ (List.mem_of_getElem? h.2), h.1⟩
/-- what every method's words say of it: kind 0 static, 1 of an object, 2 constructor -/
def a_mf (k : Nat) (y : a_Md) : Prop := Cond.initialized (m_y y).cls ∈ lw_good ∧ a_cwd y ∈ lw_good ∧ ((m_y y).cls ≠ "java/lang/invoke/MethodHandle" ∧ (m_y y).cls ≠ "java/lang/invoke/VarHandle") ∧ a_np y = some (if k = 0 then m_na y else m_na y - 1) ∧
  (k = 0 → Cond.static (m_y y) ∈ lw_good) ∧ (k = 1 → Cond.instanceMethod (m_y y) ∈ lw_good ∧ Cond.selects (m_y y).cls (m_y y) (m_y y) ∈ lw_good) ∧ (k = 2 → Cond.instanceMethod (m_y y) ∈ lw_good ∧ (m_y y).name = "<init>" ∧ m_rt y = none ∧ m_thr y = false ∧ m_hh y = []) ∧ (k = 3 → Cond.instanceMethod (m_y y) ∈ lw_good ∧ m_thr y = false ∧ m_hh y = [])
def a_mfc (k : Nat) (y : a_Md) (hs : List Nat) : Bool := w_g (hs.getD 0 0) (.initialized (m_y y).cls) && w_g (hs.getD 1 0) (a_cwd y) && decide ((m_y y).cls ≠ "java/lang/invoke/MethodHandle" ∧ (m_y y).cls ≠ "java/lang/invoke/VarHandle") && decide (a_np y = some (if k = 0 then m_na y else m_na y - 1)) &&
  (match k with
    | 0 => w_g (hs.getD 2 0) (.static (m_y y))
    | 1 => w_g (hs.getD 2 0) (.instanceMethod (m_y y)) && w_g (hs.getD 3 0) (.selects (m_y y).cls (m_y y) (m_y y))
    | 2 => w_g (hs.getD 2 0) (.instanceMethod (m_y y)) && decide ((m_y y).name = "<init>") && decide (m_rt y = none) && !(m_thr y) && decide (m_hh y = [])
    | 3 => w_g (hs.getD 2 0) (.instanceMethod (m_y y)) && !(m_thr y) && decide (m_hh y = [])
    | _ => false)
theorem a_mfc_ok {k : Nat} {y : a_Md} {hs : List Nat} (h : a_mfc k y hs = true) : a_mf k y := by
  unfold a_mfc at h
  simp only [Bool.and_eq_true, decide_eq_true_eq] at h
  obtain ⟨⟨⟨⟨h1, h2⟩, h3⟩, h4⟩, h5⟩ := h
  refine ⟨w_g_in h1, w_g_in h2, h3, h4, fun e => ?_, fun e => ?_, fun e => ?_, fun e => ?_⟩
  · subst e; exact w_g_in h5
  · subst e
    simp only [Bool.and_eq_true] at h5
    exact ⟨w_g_in h5.1, w_g_in h5.2⟩
  · subst e
    simp only [Bool.and_eq_true, decide_eq_true_eq, Bool.not_eq_true'] at h5
    obtain ⟨⟨⟨⟨g1, g2⟩, g3⟩, g4⟩, g5⟩ := h5
    exact ⟨w_g_in g1, g2, g3, g4, g5⟩
  · subst e
    simp only [Bool.and_eq_true, decide_eq_true_eq, Bool.not_eq_true'] at h5
    exact ⟨w_g_in h5.1.1, h5.1.2, h5.2⟩
/-- the throws: the entry of the constructor's link, the class -/
def a_thL : List (Nat × Nat) := [(303, 2), (372, 0), (377, 1)]
theorem a_thL_ok : ∀ z ∈ a_thL, ∀ w ∈ a_thws z.1 z.2, w ∈ lw_good ∨ w ∈ a_nest := by
  decide +kernel
def a_mt (MK : List (Nat × a_Md)) (i : Nat) : Option a_Md := (MK[i]?).map (·.2)
def a_rmc (q y : a_Md) : Bool := decide (m_fr y + 1 ≤ m_fr q) && decide (8 + (m_nL y + 11) + m_lo y ≤ m_lo q)
def a_lkc (own : String) (n b jo : Nat) (y : MethodName) : Bool := match b with
  | 0 => w_g jo (.methodLink own n y)
  | 1 => w_n jo (.methodLinkNest own n y RX8)
  | _ => false
def a_thc (q : a_Md) (pc a is ic : Nat) : Bool := a_thr.any (fun z => z.1 == is) && decide (decode (m_cc q) (pc + 3) = .ok (.dup, 1)) && decide (decode (m_cc q) (pc + 4) = .ok (.ldc_w is, 3)) && decide (decode (m_cc q) (pc + 7) = .ok (.invokespecial ic, 3)) && decide (decode (m_cc q) (pc + 10) = .ok (.athrow, 1)) && decide ((ic, a - 100) ∈ a_thL)
/-- a method of AbstractStringBuilder, called on a StringBuilder -/
def a_upx (y : MethodName) : MethodName := if y = yJ4_append_cf1ce then yJ5_append_cf1ce else y
def a_upc (own : String) (n : Nat) (y : a_Md) (hs : List Nat) : Bool := decide ((a_upx (m_y y)).cls = RJ5) && w_g (hs.getD 0 0) (.methodLink own n (a_upx (m_y y))) && w_g (hs.getD 1 0) (.sameMethod RJ5 RJ5 (a_upx (m_y y)).name (a_upx (m_y y)).desc) && w_g (hs.getD 2 0) (if m_y y = yJ4_append_cf1ce then .code yJ5_append_cf1ce cJ5_append_cf1ce 3 (some (.object RJ5)) else a_cwd y) && w_g (hs.getD 3 0) (.instanceMethod (a_upx (m_y y))) && (w_g (hs.getD 4 0) (.selects RJ4 (a_upx (m_y y)) (m_y y)) || (decide (a_upx (m_y y) = m_y y) && decide (m_y y ∈ a_prvs))) && decide ((parseMethodDescriptor (a_upx (m_y y)).desc).map (fun d => d.parameters.length) = (parseMethodDescriptor (m_y y).desc).map (fun d => d.parameters.length))
theorem a_upc_ok {own : String} {n : Nat} {y : a_Md} {hs : List Nat} (hh : m_hh y = []) (h : a_upc own n y hs = true) : a_up own n (m_y y) := by
  unfold a_upc at h
  simp only [Bool.and_eq_true, Bool.or_eq_true, decide_eq_true_eq] at h
  obtain ⟨⟨⟨⟨⟨⟨h1, h2⟩, h3⟩, h4⟩, h5⟩, h6⟩, h7⟩ := h
  have hc : ∃ b0 m0 r0, Cond.code (a_upx (m_y y)) b0 m0 r0 ∈ lw_good := by
    have h4 := w_g_in h4
    unfold a_upx
    split
    · rename_i e
      rw [if_pos e] at h4
      exact ⟨_, _, _, h4⟩
    · rename_i e
      rw [if_neg e] at h4
      unfold a_cwd at h4
      rw [if_pos hh] at h4
      exact ⟨_, _, _, h4⟩
  obtain ⟨b0, m0, r0, hc⟩ := hc
  exact ⟨a_upx (m_y y), b0, m0, r0, h1, w_g_in h2, w_g_in h3, hc, w_g_in h5, h6.imp w_g_in id, h7⟩
def a_kw (MK : List (Nat × a_Md)) (q : a_Md) (pc : Nat) (i : Instr) (len a b : Nat) (hs : List Nat) : Bool := match i with
  | .getfield n => decide (len = 3) && decide (a < 11) && decide (b < a_nf a) && w_g (hs.getD 0 0) (.fieldLink (m_y q).cls n (a_T a b).1 (a_T a b).2.1 (a_T a b).2.2.1)
  | .putfield n => decide (len = 3) && decide (a < 11) && decide (b < a_nf a) && w_g (hs.getD 0 0) (.fieldLink (m_y q).cls n (a_T a b).1 (a_T a b).2.1 (a_T a b).2.2.1) && (!(a_T a b).2.2.2 || (m_ini q && decide ((a_T a b).1 = (m_y q).cls)))
  | .new n => decide (len = 3) && (if a < 100 then w_g (hs.getD 0 0) (.classLink (m_y q).cls n (a_cn a)) && w_g (hs.getD 1 0) (.instantiable (a_cn a) (a_nf a)) && w_g (hs.getD 2 0) (.initialized (a_cn a))
      else decide ((m_y q).cls = RX8) && w_g (hs.getD 0 0) (.classLink RX8 n (a_xn (a - 100))) && w_g (hs.getD 1 0) (.initialized (a_xn (a - 100))) && a_thc q pc a (hs.getD 2 0) (hs.getD 3 0) && decide (6 ≤ m_fr q) && decide (90 ≤ m_lo q))
  | .newarray t => decide (len = 2) && w_g (hs.getD 0 0) (.arrayClass (newarray.typeOf t))
  | .multianewarray n d => decide (len = 4) && decide (d = 2) && w_g (hs.getD 0 0) (.classLink (m_y q).cls n "[[I") && w_g (hs.getD 1 0) (.arrayClass .int)
  | .anewarray n => decide (len = 3) && w_g (hs.getD 0 0) (.classLink (m_y q).cls n RX3) && decide (a = 3)
  | .ldc n => decide (len = 2) && (if a_big ≤ a then w_g (hs.getD 0 0) (.constant (m_y q).cls n (Int32.ofNat (a - a_big))) else a_strs.any (fun z => z.1 == (m_y q).cls && z.2.1 == n && z.2.2.2 == a))
  | .getstatic n => decide (len = 3) && (if a = 0 then w_g (hs.getD 0 0) (.fieldLink (m_y q).cls n "java/lang/String" "COMPACT_STRINGS" "Z") else decide (a = 1 ∨ a = 2) && w_g (hs.getD 0 0) (.fieldLink (m_y q).cls n "java/lang/Integer" (if a = 1 then "DigitOnes" else "DigitTens") "[B"))
  | .ifnonnull _ => decide (len = 3)
  | .ldc_w n => decide (len = 3) && a_strs.any (fun z => z.1 == (m_y q).cls && z.2.1 == n && z.2.2.2 == a)
  | .ldc2_w n => decide (len = 3) && w_g (hs.getD 0 0) (.constantLong (m_y q).cls n (Int64.ofNat a))
  | .invokevirtual n => decide (len = 3) && (if a = 1007 then w_g (hs.getD 0 0) (.methodLink (m_y q).cls n yJ0_getBytes_840e7) && decide (6 ≤ m_fr q) && decide (140 ≤ m_lo q) else if 1000 ≤ a then ((decide (a = 1004) && w_g (hs.getD 0 0) (.methodLink (m_y q).cls n yJ0_length_8abf5)) || ((decide (a = 1005) && w_g (hs.getD 0 0) (.methodLink (m_y q).cls n yJ0_charAt_5068e)) || (decide (a = 1006) && w_g (hs.getD 0 0) (.methodLink (m_y q).cls n yJ0_coder_7d493)))) && decide (6 ≤ m_fr q) && decide (140 ≤ m_lo q)
      else match MK[a]? with
        | some (k, y) => if k = 1 then a_rmc q y && decide (m_hh y = []) && w_g (hs.getD 0 0) (.methodLink (m_y q).cls n (m_y y)) && decide (b < 11) && decide (a_cn b = (m_y y).cls) else decide (k = 3) && a_rmc q y && decide (b = 10) && a_upc (m_y q).cls n y hs
        | none => false)
  | .invokestatic n => decide (len = 3) && (if 1000 ≤ a then ((decide (a = 1001) && w_g (hs.getD 0 0) (.methodLink (m_y q).cls n Lib.Math.min.name)) || ((decide (a = 1002) && w_g (hs.getD 0 0) (.methodLink (m_y q).cls n Lib.Math.max.name)) || (decide (a = 1003) && w_g (hs.getD 0 0) (.methodLink (m_y q).cls n arraycopyName)))) && decide (1 ≤ m_fr q) && decide (30 ≤ m_lo q)
      else match MK[a]? with
        | some (k, y) => decide (k = 0) && a_rmc q y && (decide (m_hh y = []) || (decide (b = 0) && !(m_thr y))) && a_lkc (m_y q).cls n b (hs.getD 0 0) (m_y y) && (decide (b = 0) || !(m_thr y))
        | none => false)
  | .invokespecial n => decide (len = 3) && (if a = 1000 then w_g (hs.getD 0 0) (.methodLink (m_y q).cls n Lib.objectInit) && decide (1 ≤ m_fr q) && decide (30 ≤ m_lo q)
      else decide (a < 1000) && match MK[a]? with
        | some (k, y) => if b = 2 then decide (k = 3) && a_rmc q y && decide ((m_y y).name ≠ "<init>") && w_g (hs.getD 0 0) (.methodLink (m_y q).cls n (m_y y)) && w_g (hs.getD 1 0) (.sameMethod (m_y y).cls (m_y y).cls (m_y y).name (m_y y).desc) && w_g (hs.getD 2 0) (.superclass (m_y q).cls (m_y y).cls) else decide (k = 2) && a_rmc q y && a_lkc (m_y q).cls n b (hs.getD 0 0) (m_y y)
        | none => false)
  | .tableswitch .. => true
  | .sipush _ | .if_icmp .. | .ifCond .. | .goto _ | .iinc .. => decide (len = 3)
  | .bipush _ | .iload _ | .lload _ | .dload _ | .aload _ | .istore _ | .astore _ | .dstore _ => decide (len = 2)
  | _ => decide (len = 1)
theorem a_mt_some {MK : List (Nat × a_Md)} {i : Nat} {y : a_Md} (h : a_mt MK i = some y) : ∃ k, MK[i]? = some (k, y) := by
  unfold a_mt at h
  rw [Option.map_eq_some_iff] at h
  obtain ⟨z, h1, rfl⟩ := h
  exact ⟨z.1, h1⟩
theorem a_lkc_ok {own : String} {n b jo : Nat} {y : MethodName} (h : a_lkc own n b jo y = true) : a_lnk own n b y := by
  unfold a_lkc at h
  split at h
  · exact Or.inl ⟨rfl, w_g_in h⟩
  · exact Or.inr ⟨rfl, w_n_in h⟩
  · cases h
theorem a_kw_ok {MK : List (Nat × a_Md)} (hMK : ∀ z ∈ MK, a_mf z.1 z.2) {q : a_Md} {pc : Nat} {i : Instr} {len a b : Nat} {hs : List Nat} (h : a_kw MK q pc i len a b hs = true) : a_okw (a_mt MK) q pc i len a b := by
  cases i <;> simp only [a_kw, Bool.and_eq_true, decide_eq_true_eq] at h <;> simp only [a_okw] <;> try exact h
  case getfield n => exact ⟨h.1.1.1, h.1.1.2, h.1.2, w_g_in h.2⟩
  case putfield n =>
    obtain ⟨⟨⟨⟨h1, h2⟩, h3⟩, h4⟩, h5⟩ := h
    refine ⟨h1, ⟨h2, h3, w_g_in h4⟩, ?_⟩
    cases hf : (a_T a b).2.2.2 with
    | false => exact Or.inl rfl
    | true =>
      rw [hf] at h5
      simp only [Bool.not_true, Bool.false_or, Bool.and_eq_true, decide_eq_true_eq] at h5
      exact Or.inr ⟨rfl, h5⟩
  case new n =>
    obtain ⟨h1, h2⟩ := h
    refine ⟨h1, ?_⟩
    split at h2
    · rename_i ha
      simp only [Bool.and_eq_true] at h2
      exact Or.inl ⟨ha, w_g_in h2.1.1, w_g_in h2.1.2, w_g_in h2.2⟩
    · rename_i ha
      simp only [Bool.and_eq_true, decide_eq_true_eq] at h2
      obtain ⟨⟨⟨⟨⟨g1, g2⟩, g3⟩, g4⟩, g5⟩, g6⟩ := h2
      unfold a_thc at g4
      simp only [Bool.and_eq_true, decide_eq_true_eq, List.any_eq_true, beq_iff_eq] at g4
      obtain ⟨⟨⟨⟨⟨⟨z, z1, z2⟩, k1⟩, k2⟩, k3⟩, k4⟩, k5⟩ := g4
      have hz := a_thL_ok _ k5
      have ha9 : 100 ≤ a := Nat.not_lt.mp ha
      have z9 : (hs.getD 2 0, z.2) ∈ a_thr := by rw [← z2]; exact z1
      exact Or.inr ⟨ha9, g1, w_g_in g2, w_g_in g3, ⟨hs.getD 2 0, hs.getD 3 0, z.2, z9, k1, k2, k3, k4, hz⟩, g5, g6⟩
  case newarray t => exact ⟨h.1, w_g_in h.2⟩
  case multianewarray n d => exact ⟨h.1.1.1, h.1.1.2, w_g_in h.1.2, w_g_in h.2⟩
  case anewarray n => exact ⟨h.1.1, w_g_in h.1.2, h.2⟩
  case getstatic n =>
    obtain ⟨h1, h2⟩ := h
    refine ⟨h1, ?_⟩
    split at h2
    · rename_i ha
      exact Or.inl ⟨ha, w_g_in h2⟩
    · simp only [Bool.and_eq_true, decide_eq_true_eq] at h2
      exact Or.inr ⟨h2.1, w_g_in h2.2⟩
  case ldc n =>
    obtain ⟨h1, h2⟩ := h
    refine ⟨h1, ?_⟩
    split at h2
    · rename_i ha
      exact Or.inl ⟨ha, w_g_in h2⟩
    · rename_i ha
      simp only [List.any_eq_true, Bool.and_eq_true, beq_iff_eq] at h2
      obtain ⟨z, z1, ⟨z2, z3⟩, z4⟩ := h2
      exact Or.inr ⟨ha, z.2.2.1, by rw [← z2, ← z3, ← z4]; exact z1⟩
  case ldc_w n =>
    obtain ⟨h1, h2⟩ := h
    simp only [List.any_eq_true, Bool.and_eq_true, beq_iff_eq] at h2
    obtain ⟨z, z1, ⟨z2, z3⟩, z4⟩ := h2
    exact ⟨h1, z.2.2.1, by rw [← z2, ← z3, ← z4]; exact z1⟩
  case ldc2_w n => exact ⟨h.1, w_g_in h.2⟩
  case invokevirtual n =>
    obtain ⟨h1, h2⟩ := h
    refine ⟨h1, ?_⟩
    split at h2
    · rename_i ha
      simp only [Bool.and_eq_true, decide_eq_true_eq] at h2
      exact Or.inr (Or.inl ⟨ha, w_g_in h2.1.1, h2.1.2, h2.2⟩)
    split at h2
    · rename_i ha
      simp only [Bool.and_eq_true, Bool.or_eq_true, decide_eq_true_eq] at h2
      obtain ⟨⟨g1, g2⟩, g3⟩ := h2
      exact Or.inl ⟨ha, g1.imp (fun z => ⟨z.1, w_g_in z.2⟩) (fun z => z.imp (fun z => ⟨z.1, w_g_in z.2⟩) (fun z => ⟨z.1, w_g_in z.2⟩)), g2, g3⟩
    · rename_i ha
      split at h2
      rotate_left
      · cases h2
      rename_i k y0 hk
      split at h2
      · rename_i hk1
        refine Or.inr (Or.inr (Or.inl ⟨by omega, fun y hy => ?_⟩))
        obtain ⟨k9, hk9⟩ := a_mt_some hy
        cases Option.some.inj (hk9.symm.trans hk)
        simp only [Bool.and_eq_true, decide_eq_true_eq, a_rmc] at h2
        obtain ⟨⟨⟨⟨g2, g3⟩, g4⟩, g5⟩, g6⟩ := h2
        obtain ⟨f1, f2, f3, f4, f5, f6, f7, f8⟩ := hMK _ (List.mem_of_getElem? hk9)
        subst hk1
        exact ⟨⟨g2, f1, f2, f3⟩, g3, w_g_in g4, (f6 rfl).1, (f6 rfl).2, f4, g5, g6⟩
      · refine Or.inr (Or.inr (Or.inr ⟨by omega, fun y hy => ?_⟩))
        obtain ⟨k9, hk9⟩ := a_mt_some hy
        cases Option.some.inj (hk9.symm.trans hk)
        simp only [Bool.and_eq_true, decide_eq_true_eq, a_rmc] at h2
        obtain ⟨⟨⟨g1, g2⟩, g3⟩, g4⟩ := h2
        obtain ⟨f1, f2, f3, f4, f5, f6, f7, f8⟩ := hMK _ (List.mem_of_getElem? hk9)
        subst g1
        obtain ⟨e1, e2, e3⟩ := f8 rfl
        exact ⟨⟨g2, f1, f2, f3⟩, e3, e2, a_upc_ok e3 g4, e1, f4, g3⟩
  case invokestatic n =>
    obtain ⟨h1, h2⟩ := h
    refine ⟨h1, ?_⟩
    split at h2
    · rename_i ha
      simp only [Bool.and_eq_true, Bool.or_eq_true, decide_eq_true_eq] at h2
      obtain ⟨⟨g1, g2⟩, g3⟩ := h2
      exact Or.inl ⟨ha, g1.imp (fun z => ⟨z.1, w_g_in z.2⟩) (fun z => z.imp (fun z => ⟨z.1, w_g_in z.2⟩) (fun z => ⟨z.1, w_g_in z.2⟩)), g2, g3⟩
    · rename_i ha
      refine Or.inr ⟨by omega, fun y hy => ?_⟩
      obtain ⟨k, hk⟩ := a_mt_some hy
      rw [hk] at h2
      simp only [Bool.and_eq_true, Bool.or_eq_true, Bool.not_eq_true', decide_eq_true_eq, a_rmc] at h2
      obtain ⟨⟨⟨⟨g1, g2⟩, g3⟩, g4⟩, g5⟩ := h2
      obtain ⟨f1, f2, f3, f4, f5, f6, f7, f8⟩ := hMK _ (List.mem_of_getElem? hk)
      subst g1
      exact ⟨⟨g2, f1, f2, f3⟩, g3, a_lkc_ok g4, fun e => g5.resolve_left (by omega), f5 rfl, f4⟩
  case invokespecial n =>
    obtain ⟨h1, h2⟩ := h
    refine ⟨h1, ?_⟩
    split at h2
    · rename_i ha
      simp only [Bool.and_eq_true, decide_eq_true_eq] at h2
      exact Or.inl ⟨ha, w_g_in h2.1.1, h2.1.2, h2.2⟩
    · rename_i ha
      simp only [Bool.and_eq_true, decide_eq_true_eq] at h2
      obtain ⟨h3, h2⟩ := h2
      split at h2
      rotate_left
      · cases h2
      rename_i k y0 hk
      split at h2
      · rename_i hb
        refine Or.inr (Or.inr ⟨h3, hb, fun y hy => ?_⟩)
        obtain ⟨k9, hk9⟩ := a_mt_some hy
        cases Option.some.inj (hk9.symm.trans hk)
        simp only [Bool.and_eq_true, decide_eq_true_eq, a_rmc] at h2
        obtain ⟨⟨⟨⟨⟨g1, g2⟩, g3⟩, g4⟩, g5⟩, g6⟩ := h2
        obtain ⟨f1, f2, f3, f4, f5, f6, f7, f8⟩ := hMK _ (List.mem_of_getElem? hk9)
        subst g1
        obtain ⟨e1, e2, e3⟩ := f8 rfl
        exact ⟨⟨g2, f1, f2, f3⟩, e3, e2, g3, ⟨w_g_in g4, w_g_in g5, w_g_in g6, e1⟩, f4⟩
      · refine Or.inr (Or.inl ⟨h3, fun y hy => ?_⟩)
        obtain ⟨k9, hk9⟩ := a_mt_some hy
        cases Option.some.inj (hk9.symm.trans hk)
        simp only [Bool.and_eq_true, decide_eq_true_eq, a_rmc] at h2
        obtain ⟨⟨g1, g2⟩, g3⟩ := h2
        obtain ⟨f1, f2, f3, f4, f5, f6, f7, f8⟩ := hMK _ (List.mem_of_getElem? hk9)
        subst g1
        obtain ⟨e1, e2, e3, e4, e5⟩ := f7 rfl
        exact ⟨⟨g2, f1, f2, f3⟩, e5, e4, e2, e3, a_lkc_ok g3, e1, f4⟩
def a_kall (MK : List (Nat × a_Md)) (q : a_Md) : List (Nat × Instr × Nat × Nat × Nat) → List (List Nat) → Bool
  | [], _ => true
  | z :: t, hs => decide (decode (m_cc q) z.1 = .ok (z.2.1, z.2.2.1)) && a_kw MK q z.1 z.2.1 z.2.2.1 z.2.2.2.1 z.2.2.2.2 (hs.headD []) && a_kall MK q t hs.tail
theorem a_kall_ok {MK : List (Nat × a_Md)} (hMK : ∀ z ∈ MK, a_mf z.1 z.2) {q : a_Md} : ∀ (l : List (Nat × Instr × Nat × Nat × Nat)) (hs : List (List Nat)), a_kall MK q l hs = true → ∀ z ∈ l, a_oke (a_mt MK) q z := by
  intro l
  induction l with
  | nil => intro hs _ z hz; cases hz
  | cons w t ih =>
    intro hs h z hz
    unfold a_kall at h
    simp only [Bool.and_eq_true, decide_eq_true_eq] at h
    rcases List.mem_cons.mp hz with rfl | hz
    · exact ⟨h.1.1, a_kw_ok hMK h.1.2⟩
    · exact ih _ h.2 z hz
def a_isV (i : Instr) : Bool := match i with
  | .invokevirtual _ => true
  | _ => false
def a_isSS (i : Instr) : Bool := match i with
  | .invokestatic _ => true
  | .invokespecial _ => true
  | _ => false
def a_khh (q : a_Md) (hs : List (Nat × Nat)) : Bool := decide (m_hh q = []) || (!(m_thr q) && decide (m_rt q = some .int ∨ m_rt q = some .boolean) && decide ((m_hh q).length = (m_xk q).length) && decide ((m_hh q).length ≤ 1) && decide ((m_hh q).length = hs.length) && !((m_is q).any fun e => a_isSS e.2.1) &&
  (((m_hh q).zip (m_xk q)).zip hs).all fun z => decide (z.1.1.2.2.2 ≠ 0) && decide (z.1.2 < 4) && w_g z.2.1 (.classLink (m_y q).cls z.1.1.2.2.2 (a_xn z.1.2)) && w_n z.2.2 (.castable (a_xn z.1.2) (a_xn z.1.2)) && (m_is q).all fun e => !(a_isV e.2.1) || (decide (z.1.1.1 ≤ e.1) && decide (e.1 < z.1.1.2.1)))
def a_km (MK : List (Nat × a_Md)) (q : a_Md) (hs : List (List Nat)) (hh : List (Nat × Nat)) : Bool := plainName (m_y q).cls && a_kall MK q (m_is q) hs && a_khh q hh && (!(m_ini q) || decide ((m_y q).name = "<init>"))
theorem a_km_ok {MK : List (Nat × a_Md)} (hMK : ∀ z ∈ MK, a_mf z.1 z.2) {q : a_Md} {hs : List (List Nat)} {hh : List (Nat × Nat)} (h : a_km MK q hs hh = true) : a_okm (a_mt MK) q := by
  unfold a_km at h
  simp only [Bool.and_eq_true, Bool.or_eq_true, Bool.not_eq_true', decide_eq_true_eq] at h
  obtain ⟨⟨⟨h1, h2⟩, h3⟩, h4⟩ := h
  unfold a_khh at h3
  simp only [Bool.and_eq_true, Bool.or_eq_true, Bool.not_eq_true', decide_eq_true_eq] at h3
  refine ⟨h1, a_kall_ok hMK _ _ h2, ?_, fun e => h4.resolve_left (by rw [e]; decide), fun hne => ?_⟩
  · rcases h3 with h3 | ⟨⟨⟨⟨⟨⟨g1, g2⟩, g3⟩, g31⟩, g4⟩, g5⟩, g6⟩
    · exact Or.inl h3
    · refine Or.inr ⟨g1, g2, g3, g31, fun z hz => ?_⟩
      have hlen : ((m_hh q).zip (m_xk q)).length = hh.length := by rw [List.length_zip, ← g3, Nat.min_self, g4]
      obtain ⟨i, hi⟩ := List.getElem?_of_mem hz
      have hi2 : i < hh.length := by rw [← hlen]; exact (List.getElem?_eq_some_iff.mp hi).1
      have hm : (z, hh[i]) ∈ ((m_hh q).zip (m_xk q)).zip hh := List.mem_of_getElem? (i := i) (by
        rw [List.getElem?_zip_eq_some]
        exact ⟨hi, List.getElem?_eq_getElem hi2⟩)
      have := List.all_eq_true.mp g6 _ hm
      simp only [Bool.and_eq_true, decide_eq_true_eq, List.all_eq_true, Bool.or_eq_true, Bool.not_eq_true'] at this
      obtain ⟨⟨⟨⟨k1, k2⟩, k3⟩, k4⟩, k5⟩ := this
      refine ⟨k1, k2, w_g_in k3, w_n_in k4, fun e he ⟨n, en⟩ => ?_⟩
      rcases k5 e he with k5 | k5
      · rw [en] at k5; cases k5
      · exact k5
  · rcases h3 with h3 | ⟨⟨⟨⟨⟨⟨g1, g2⟩, g3⟩, g31⟩, g4⟩, g5⟩, g6⟩
    · exact absurd h3 hne
    · intro e he ⟨n, en⟩
      have := List.any_eq_false.mp g5 e he
      rcases en with en | en <;> rw [en] at this <;> exact absurd rfl this
