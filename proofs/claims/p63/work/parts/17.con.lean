/-! The contract of a method out of a run of it. -/
theorem a_entL (ad : Nat → Nat) (vs : List Value) : (lg_sl (vs.map (a_v ad))).length = (a_ent vs).length ∧ ∀ (i : Nat) (v : Value), (a_ent vs)[i]? = some v → a_live v → (lg_sl (vs.map (a_v ad)))[i]? = some (.val (a_v ad v)) := by
  induction vs with
  | nil => exact ⟨rfl, fun i v h => by simp [a_ent] at h⟩
  | cons w t ih =>
    obtain ⟨i1, i2⟩ := ih
    by_cases hc : w.category = 2
    · have e1 : lg_sl ((w :: t).map (a_v ad)) = .val (a_v ad w) :: .second :: lg_sl (t.map (a_v ad)) := by
        have : (a_v ad w).category = 2 := by rw [a_cat]; exact hc
        simp [lg_sl, this]
      have e2 : a_ent (w :: t) = w :: a_dead :: a_ent t := by simp [a_ent, hc]
      rw [e1, e2]
      refine ⟨by simp [i1], fun i v h hv => ?_⟩
      match i with
      | 0 => cases h; rfl
      | 1 => cases h; exact absurd rfl (hv 0)
      | i + 2 => exact i2 i v h hv
    · have e1 : lg_sl ((w :: t).map (a_v ad)) = .val (a_v ad w) :: lg_sl (t.map (a_v ad)) := by
        have : ¬ (a_v ad w).category = 2 := by rw [a_cat]; exact hc
        simp [lg_sl, this]
      have e2 : a_ent (w :: t) = w :: a_ent t := by simp [a_ent, hc]
      rw [e1, e2]
      refine ⟨by simp [i1], fun i v h hv => ?_⟩
      match i with
      | 0 => cases h; rfl
      | i + 1 => exact i2 i v h hv
theorem a_loc_L (ad : Nat → Nat) {vs : List Value} {nL : Nat} (hn : (a_ent vs).length ≤ nL) : a_L ad nL (a_loc nL vs) ((lg_sl (vs.map (a_v ad)) ++ List.replicate (nL - (lg_sl (vs.map (a_v ad))).length) Slot.unset).toArray) := by
  obtain ⟨e1, e2⟩ := a_entL ad vs
  have h := lv_entry (vs.map (a_v ad)) (n := nL) (by rw [e1]; exact hn)
  refine ⟨h.1, h.2.1, by simp [a_loc]; omega, fun i v hi hv => ?_⟩
  unfold a_loc at hi
  by_cases hl : i < (a_ent vs).length
  · rw [List.getElem?_append_left hl] at hi
    have := e2 i v hi hv
    rw [List.getElem?_toArray, List.getElem?_append_left (by rw [e1]; exact hl)]
    exact this
  · rw [List.getElem?_append_right (by omega)] at hi
    have := List.eq_of_mem_replicate (List.mem_of_getElem? hi)
    exact absurd this (hv 0)
theorem a_loc_ok {n nL : Nat} {vs : List Value} (h : a_oks n vs) : a_oks n (a_loc nL vs) := by
  have h1 : ∀ vs : List Value, a_oks n vs → a_oks n (a_ent vs) := by
    intro vs
    induction vs with
    | nil => intro _ v hv; cases hv
    | cons w t ih =>
      intro h
      rw [a_oks_cons] at h
      unfold a_ent
      split
      · rw [a_oks_cons, a_oks_cons]
        exact ⟨h.1, a_okv_dead n, ih h.2⟩
      · rw [a_oks_cons]
        exact ⟨h.1, ih h.2⟩
  intro v hv
  rcases List.mem_append.mp hv with hv | hv
  · exact h1 vs h v hv
  · rw [List.eq_of_mem_replicate hv]
    exact a_okv_dead n
section A17
variable {l : Launch} {xs : Nat → Int32} {L : Nat} {MT : Nat → Option a_Md} {q y : a_Md} {res : a_R} {h0 : a_H}
theorem a_1thr {pc : Nat} {ls st : List Value} {h : a_H} {cb nb : Nat} {w : a_R × a_H} (hq : m_thr q = false) (hz : a_1 MT xs L q pc ls st h cb nb = some (.inr (.inr w))) : ∃ v, w.1 = .inl v := by
  have noins : ∀ {o : Option a_S}, (o.map Sum.inl : Option a_O) = some (.inr (.inr w)) → False := fun h => by
    obtain ⟨x, -, h2⟩ := a_map_l h
    cases h2
  unfold a_1 at hz
  split at hz
  · cases hz
  split at hz
  · split at hz
    · split at hz
      · split at hz
        · cases hz; exact ⟨_, rfl⟩
        · cases hz
      · cases hz
    · cases hz
  · split at hz
    · split at hz
      · cases hz; exact ⟨_, rfl⟩
      · cases hz
    · cases hz
  · split at hz
    · split at hz
      · cases hz; exact ⟨_, rfl⟩
      · cases hz
    · cases hz
  · split at hz
    · split at hz
      · cases hz; exact ⟨_, rfl⟩
      · cases hz
    · cases hz
  · split at hz
    · split at hz
      · cases hz; exact ⟨_, rfl⟩
      · cases hz
    · cases hz
  · split at hz
    · split at hz
      · rename_i hc
        rw [hq] at hc
        cases hc.1
      · cases hz
    · exact (noins hz).elim
  · split at hz
    · rw [Option.map_eq_some_iff] at hz
      obtain ⟨x, -, ez⟩ := hz
      cases ez
    · cases hz
  · split at hz
    · rw [Option.map_eq_some_iff] at hz
      obtain ⟨x, -, ez⟩ := hz
      cases ez
    · split at hz
      · split at hz <;> cases hz
      · cases hz
  · split at hz
    · rw [Option.map_eq_some_iff] at hz
      obtain ⟨x, -, ez⟩ := hz
      cases ez
    · split at hz
      · split at hz <;> cases hz
      · cases hz
  · split at hz
    · rw [Option.map_eq_some_iff] at hz
      obtain ⟨x, -, ez⟩ := hz
      cases ez
    · split at hz
      · split at hz <;> cases hz
      · cases hz
  · exact (noins hz).elim
theorem a_exthr {K : Nat → List Value → a_H → Option (a_R × a_H)} (hq : m_thr q = false) : ∀ (f pc : Nat) (ls st : List Value) (h : a_H) (cb nb : Nat), a_ex K MT xs L q f pc ls st h cb nb = some (res, h0) → ∃ v, res = .inl v := by
  intro f
  induction f with
  | zero => intro pc ls st h cb nb hz; cases hz
  | succ f ih =>
    intro pc ls st h cb nb hz
    unfold a_ex at hz
    split at hz
    · cases hz
    · exact ih _ _ _ _ _ _ hz
    · rename_i z h1
      cases hz
      exact a_1thr hq h1
    · split at hz
      · exact ih _ _ _ _ _ _ hz
      · unfold a_hx at hz
        split at hz
        · rw [Option.bind_eq_some_iff] at hz
          obtain ⟨v, -, hz⟩ := hz
          split at hz
          rotate_left
          · cases hz
          cases hz
          exact ⟨_, rfl⟩
        · split at hz
          · rename_i hc
            rw [hq] at hc
            cases hc.1
          · cases hz
      · cases hz
/-- the contracts of all methods -/
theorem a_cons {F : Nat} (hl : l.stackTraces = false) (hMT : ∀ i y, MT i = some y → a_okm MT y) : ∀ (d i : Nat) (y : a_Md) (vs : List Value) (h : a_H) (r1 : a_R) (h1 : a_H), MT i = some y → a_run MT xs L F d i vs h = some (r1, h1) → a_Con l y xs L vs h r1 h1 ∧ (m_thr y = false → ∃ v, r1 = .inl v) := by
  intro d
  induction d with
  | zero => intro i y vs h r1 h1 _ hz; cases hz
  | succ d ih =>
    intro i y vs h r1 h1 hy hz
    unfold a_run at hz
    rw [hy] at hz
    dsimp only at hz
    split at hz
    rotate_left
    · cases hz
    rename_i hn
    refine ⟨?_, fun hq => a_exthr hq _ _ _ _ _ _ _ hz⟩
    have hok := hMT i y hy
    intro D ad ca sz hvs hh
    have body : ∀ (p : Program) (e : Env) (s : State) (m : MethodId) (args : Array Value) (below : List Frame) (meth : Method) (c : Code) (s₁ : State), BodyLoose p l (m_y y) (headSpec (a_wsm y) { frames := m_fr y, cells := m_kc y, slots := m_kn y, locals := m_lo y }) (m_cc y) (m_nL y) (m_rt y) e s m args below meth c s₁ → c.maxLocals = m_nL y → c.exceptionTable.toList = tableOf (m_hh y) → a_Pc D ad ca h sz xs L vs args s →
        W p l e (headSpec (a_wsm y) { frames := m_fr y, cells := m_kc y, slots := m_kn y, locals := m_lo y }).room s m args below meth c s.heap [] 0 0 (vx_MQ below (a_Qr D ad h.length (va_A (a_ws ad ca h) sz) r1 h1) (a_Xr D ad h.length (va_A (a_ws ad ca h) sz) r1 h1) args s (m_kc y) (m_kn y) (va_A (a_ws ad ca h) sz)) (entryFrame m args (m_nL y)) := by
      intro p e s m args below meth c s₁ B hml htab hP
      obtain ⟨rfl, hsz, hW, hA⟩ := hP
      have hts := atoms_spec (ws := a_wsm y) B.pre
      have X : a_cx p s s.heap m ((vs.map (a_v ad)).toArray) meth c (m_cc y) (m_y y).cls (m_nL y) (va_A (a_ws ad ca h) sz) xs L ad (m_ini y) :=
        ⟨B.exec, B.bytes, hml, findClass_of_methodNamed B.named, fun w hw => hts w (List.mem_cons_of_mem _ hw), fun q hq => Or.inr (by rw [← hsz]; exact hq), hA, fun hi => (name_of_methodNamed B.named B.method).1.trans (hok.2.2.2.1 hi)⟩
      rw [lg_entry_eq]
      exact (a_sound (R := { frames := m_fr y, cells := m_kc y, slots := m_kn y, locals := m_lo y }) (n0 := h.length) (Q := vx_MQ below (a_Qr D ad h.length (va_A (a_ws ad ca h) sz) r1 h1) (a_Xr D ad h.length (va_A (a_ws ad ca h) sz) r1 h1) ((vs.map (a_v ad)).toArray) s (m_kc y) (m_kn y) (va_A (a_ws ad ca h) sz)) (D := D) X rfl hok (Nat.le_refl _) (Nat.le_refl _) (fun i y vs h r1 h1 hy hz => ih i y vs h r1 h1 hy hz)
        (fun pc ls st h9 cb nb hz9 => a_e1 (R := { frames := m_fr y, cells := m_kc y, slots := m_kn y, locals := m_lo y }) (w := (r1, h1)) X rfl hok.2.1 hl B.returns B.notSynchronized htab (Nat.le_refl _) (Nat.le_refl _) hz9)
        (fun pc k ls r h9 cb nb hz9 hpc => a_hxG (R := { frames := m_fr y, cells := m_kc y, slots := m_kn y, locals := m_lo y }) X rfl rfl hok B.returns B.notSynchronized htab hz9 hpc) F 0 (a_loc (m_nL y) vs) [] h (m_kc y) (m_kn y) hz)
        ad ca s.heap [] 0 0 _ (a_agr_refl _ _) (Nat.le_refl _) (a_loc_L ad hn) (a_loc_ok hvs) (fun v hv => by cases hv) hh ⟨hW.1, hW.2.1.weaken (fun k q hk _ => va_A.in hk), hW.2.2⟩ va_S.rf (by show 0 + m_kc y ≤ m_kc y; omega) (by show 0 + m_kn y ≤ m_kn y; omega)
    by_cases hh0 : m_hh y = []
    · refine vx_ofW (y := m_y y) (ws := a_wsm y) (ws' := lw_good) (cc := m_cc y) (maxL := m_nL y) (ret := m_rt y) hok.1 (by unfold a_wsm a_cwd; rw [if_pos hh0]) ?_
      intro p e s m args below meth c s₁ B hml ht hP
      exact body p e s m args below meth c s₁ B hml (by rw [hh0]; exact List.eq_nil_iff_forall_not_mem.mpr (fun x hx => ht x hx)) hP
    · refine vx_ofWH (y := m_y y) (ws := a_wsm y) (ws' := lw_good) (cc := m_cc y) (maxL := m_nL y) (ret := m_rt y) (hh := m_hh y) hok.1 (by unfold a_wsm a_cwd; rw [if_neg hh0]) ?_
      intro p e s m args below meth c s₁ B hml hP
      have hcw := atoms_spec (ws := a_wsm y) B.pre (a_cwd y) List.mem_cons_self
      rw [show a_cwd y = .codeWith (m_y y) (m_cc y) (m_nL y) (m_rt y) (m_hh y) from if_neg hh0] at hcw
      exact body p e s m args below meth c s₁ B hml (vx_table (x := m_y y) B hcw) hP
end A17
