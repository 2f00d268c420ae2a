/-! Steps, calls, ends together; the contract of a method out of a run of it. -/
section A16
variable {p : Program} {l : Launch} {e : Env} {R : Room} {s : State} {H0 : Heap} {m : MethodId} {args : Array Value} {below : List Frame} {meth : Method} {c : Code} {Q : State → Prop}
variable {D : va_G} {A : Nat → Prop} {nL : Nat} {ad0 : Nat → Nat} {n0 : Nat} {cc : ByteArray} {xs : Nat → Int32} {L : Nat} {pc : Nat} {ls st r : List Value} {h h0 : a_H} {cb nb : Nat} {MT : Nat → Option a_Md} {q y : a_Md} {i : Instr} {len a b n : Nat} {res : a_R} {vs : List Value}
theorem a_map_l {α β γ : Type} {o : Option α} {z : α ⊕ (β ⊕ γ)} (h : o.map Sum.inl = some z) : ∃ x, o = some x ∧ z = .inl x := by
  rw [Option.map_eq_some_iff] at h
  obtain ⟨x, h1, h2⟩ := h
  exact ⟨x, h1, h2.symm⟩
theorem a_s1 {z : a_S} (X : a_cx p s H0 m args meth c cc (m_y q).cls nL A xs L ad0 (m_ini q)) (hcc : m_cc q = cc) (hok : ∀ z ∈ m_is q, a_oke MT q z) (hRf : m_fr q ≤ R.frames) (hRl : m_lo q ≤ R.locals) (hz : a_1 MT xs L q pc ls st h cb nb = some (.inl z))
    (k : a_GS p l e R s H0 m args below meth c Q D A nL ad0 n0 z) : a_G p l e R s H0 m args below meth c Q D A nL ad0 n0 pc ls st h cb nb := by
  unfold a_1 at hz
  split at hz
  · cases hz
  rename_i i len a b hat
  obtain ⟨hd, hw⟩ := a_row hok hcc hat
  split at hz
  · split at hz
    · split at hz
      · split at hz <;> cases hz
      · cases hz
    · cases hz
  · split at hz
    · split at hz <;> cases hz
    · cases hz
  · split at hz
    · split at hz <;> cases hz
    · cases hz
  · split at hz
    · split at hz <;> cases hz
    · cases hz
  · split at hz
    · split at hz <;> cases hz
    · cases hz
  · split at hz
    · split at hz <;> cases hz
    · rename_i ha
      obtain ⟨x, hx, ez⟩ := a_map_l hz
      cases ez
      exact a_insok X hd hw (fun _ => by omega) hx k
  · obtain ⟨rfl, -, hs⟩ := hw
    split at hz
    · rename_i hd2
      subst hd2
      rw [Option.map_eq_some_iff] at hz
      obtain ⟨x, hx, ez⟩ := hz
      cases ez
      exact a_mna X hd hs hx k
    · cases hz
  · obtain ⟨rfl, hs⟩ := hw
    split at hz
    · rename_i ha
      rw [Option.map_eq_some_iff] at hz
      obtain ⟨x, hx, ez⟩ := hz
      cases ez
      rcases hs with ⟨-, hs⟩ | ⟨rfl, hs, hf, hl⟩ | ⟨hs, -⟩ | ⟨hs, -⟩
      · exact a_bv X hd hs hRf hRl hx k
      · exact a_bg X hd hs hf hl hRf hRl hx k
      · omega
      · omega
    · split at hz
      · split at hz <;> cases hz
      · cases hz
  · obtain ⟨rfl, hs⟩ := hw
    split at hz
    · rename_i ha
      rw [Option.map_eq_some_iff] at hz
      obtain ⟨x, hx, ez⟩ := hz
      cases ez
      rcases hs with ⟨-, hs⟩ | ⟨hs, -⟩
      · exact a_bs X hd hs hRf hRl hx k
      · omega
    · split at hz
      · split at hz <;> cases hz
      · cases hz
  · obtain ⟨rfl, hs⟩ := hw
    split at hz
    · rename_i ha
      rw [Option.map_eq_some_iff] at hz
      obtain ⟨x, hx, ez⟩ := hz
      cases ez
      rcases hs with ⟨rfl, hs⟩ | ⟨hs, -⟩ | ⟨hs, -⟩
      · exact a_bo X hd hs hRf hRl hx k
      · omega
      · omega
    · split at hz
      · split at hz <;> cases hz
      · cases hz
  · rename_i hne _ _ _ _
    obtain ⟨x, hx, ez⟩ := a_map_l hz
    cases ez
    exact a_insok X hd hw (fun ⟨n, e9⟩ => absurd e9 (hne n)) hx k
/-- an end of its own -/
theorem a_e1 {w : a_R × a_H} (X : a_cx p s s.heap m args meth c cc (m_y q).cls nL A xs L ad0 (m_ini q)) (hcc : m_cc q = cc) (hok : ∀ z ∈ m_is q, a_oke MT q z) (hl : l.stackTraces = false) (hr : meth.sig.returnType = m_rt q) (hlocks : meth.locks = false) (htab : c.exceptionTable.toList = tableOf (m_hh q)) (hRf : m_fr q ≤ R.frames) (hRl : m_lo q ≤ R.locals) (hz : a_1 MT xs L q pc ls st h cb nb = some (.inr (.inr w))) :
    a_G p l e R s s.heap m args below meth c (a_E below D ad0 n0 A w.1 w.2 args s R) D A nL ad0 n0 pc ls st h cb nb := by
  unfold a_1 at hz
  split at hz
  · cases hz
  rename_i i len a b hat
  obtain ⟨hd, hw⟩ := a_row hok hcc hat
  have noins : ∀ {o : Option a_S}, (o.map Sum.inl : Option a_O) = some (.inr (.inr w)) → False := fun h => by
    obtain ⟨x, -, h2⟩ := a_map_l h
    cases h2
  split at hz
  · obtain rfl : len = 1 := hw
    split at hz
    · split at hz
      · rename_i ty hty
        split at hz
        · rename_i hn
          cases hz
          exact a_ret_i X (hr.trans hty) hlocks hn hd
        · cases hz
      · cases hz
    · cases hz
  · obtain rfl : len = 1 := hw
    split at hz
    · split at hz
      · rename_i hty
        cases hz
        exact a_ret_d X (hr.trans hty) hlocks hd
      · cases hz
    · cases hz
  · obtain rfl : len = 1 := hw
    split at hz
    · split at hz
      · rename_i hty
        cases hz
        exact a_ret_f X (hr.trans hty) hlocks hd
      · cases hz
    · cases hz
  · obtain rfl : len = 1 := hw
    split at hz
    · split at hz
      · rename_i hty
        cases hz
        obtain ⟨ty, hrt⟩ : ∃ ty, m_rt q = some ty := by
          cases hq : m_rt q with
          | none => rw [hq] at hty; cases hty
          | some ty => exact ⟨ty, rfl⟩
        rw [hrt] at hty
        exact a_ret_a X (hr.trans hrt) hty hlocks hd
      · cases hz
    · cases hz
  · obtain rfl : len = 1 := hw
    split at hz
    · split at hz
      · rename_i hty
        cases hz
        exact a_ret_v X (hr.trans hty) hlocks hd
      · cases hz
    · cases hz
  · split at hz
    · rename_i ha
      split at hz
      · rename_i hc
        obtain ⟨g1, g2, g3, g4, g5, g6⟩ := hc
        cases hz
        obtain ⟨rfl, ⟨h100, -⟩ | ⟨-, hs⟩⟩ := hw
        · omega
        · exact a_thw X hl (by rw [htab, g2]; rfl) hlocks hRf hRl hcc hd hs g3 g4 g5 (by omega)
      · cases hz
    · exact (noins hz).elim
  · split at hz
    · rw [Option.map_eq_some_iff] at hz
      obtain ⟨x, -, ez⟩ := hz
      cases ez
    · cases hz
  · split at hz
    · rw [Option.map_eq_some_iff] at hz
      obtain ⟨x, -, ez⟩ := hz
      cases ez
    · split at hz
      · split at hz <;> cases hz
      · cases hz
  · split at hz
    · rw [Option.map_eq_some_iff] at hz
      obtain ⟨x, -, ez⟩ := hz
      cases ez
    · split at hz
      · split at hz <;> cases hz
      · cases hz
  · split at hz
    · rw [Option.map_eq_some_iff] at hz
      obtain ⟨x, -, ez⟩ := hz
      cases ez
    · split at hz
      · split at hz <;> cases hz
      · cases hz
  · exact (noins hz).elim
/-- a call and what comes behind it -/
theorem a_k1 {z : Nat × List Value × a_S} {r1 : a_R} {h1 : a_H} (X : a_cx p s H0 m args meth c cc (m_y q).cls nL A xs L ad0 (m_ini q)) (hcc : m_cc q = cc) (hok : a_okm MT q) (hRf : m_fr q ≤ R.frames) (hRl : m_lo q ≤ R.locals) (hz : a_1 MT xs L q pc ls st h cb nb = some (.inr (.inl z))) (hy : MT z.1 = some y)
    (hC : a_Con l y xs L z.2.1 z.2.2.2.2.2.1 r1 h1 ∧ (m_thr y = false → ∃ v, r1 = .inl v))
    (kk : ∀ v, r1 = .inl v → a_G p l e R s H0 m args below meth c Q D A nL ad0 n0 (z.2.2.1 + 3) z.2.2.2.1 (v.toList ++ z.2.2.2.2.1) h1 (z.2.2.2.2.2.2.1 - m_kc y) (z.2.2.2.2.2.2.2 - m_kn y))
    (kx : ∀ k, r1 = .inr k → (m_hh q = [] ∨ ∃ n r9, (z.2.2.1, .invokevirtual n, r9) ∈ m_is q) → a_GX p l e R s H0 m args below meth c Q D A nL ad0 n0 z.2.2.1 z.2.2.2.1 z.2.2.2.2.1 h1 (z.2.2.2.2.2.2.1 - m_kc y) (z.2.2.2.2.2.2.2 - m_kn y) k) : a_G p l e R s H0 m args below meth c Q D A nL ad0 n0 pc ls st h cb nb := by
  unfold a_1 at hz
  split at hz
  · cases hz
  rename_i i len a b hat
  obtain ⟨hd, hw⟩ := a_row hok.2.1 hcc hat
  have hmem := a_at_mem hat
  have noins : ∀ {o : Option a_S}, (o.map Sum.inl : Option a_O) = some (.inr (.inl z)) → False := fun h => by
    obtain ⟨x, -, h2⟩ := a_map_l h
    cases h2
  split at hz
  · split at hz
    · split at hz
      · split at hz <;> cases hz
      · cases hz
    · cases hz
  · split at hz
    · split at hz <;> cases hz
    · cases hz
  · split at hz
    · split at hz <;> cases hz
    · cases hz
  · split at hz
    · split at hz <;> cases hz
    · cases hz
  · split at hz
    · split at hz <;> cases hz
    · cases hz
  · split at hz
    · split at hz <;> cases hz
    · exact (noins hz).elim
  · split at hz
    · rw [Option.map_eq_some_iff] at hz
      obtain ⟨x, -, ez⟩ := hz
      cases ez
    · cases hz
  · rename_i n9 _
    obtain ⟨rfl, hs⟩ := hw
    split at hz
    · rw [Option.map_eq_some_iff] at hz
      obtain ⟨x, -, ez⟩ := hz
      cases ez
    · rename_i ha
      split at hz
      · rename_i y9 hy9
        split at hz
        · rename_i hc
          cases hz
          cases Option.some.inj (hy9.symm.trans hy)
          rcases hs with ⟨hs, -⟩ | ⟨hs, -⟩ | ⟨-, hs⟩ | ⟨-, hs⟩
          · omega
          · omega
          · exact a_cv X hRf hRl hd (hs _ hy9) hc hC.1 kk (fun k e9 => kx k e9 (Or.inr ⟨_, _, hmem⟩))
          · exact a_cu X hRf hRl hd (hs _ hy9) hC.2 hc hC.1 kk (fun k e9 => kx k e9 (Or.inr ⟨_, _, hmem⟩))
        · cases hz
      · cases hz
  · rename_i n9 _
    obtain ⟨rfl, hs⟩ := hw
    split at hz
    · rw [Option.map_eq_some_iff] at hz
      obtain ⟨x, -, ez⟩ := hz
      cases ez
    · rename_i ha
      split at hz
      · rename_i y9 hy9
        split at hz
        · rename_i hc
          cases hz
          cases Option.some.inj (hy9.symm.trans hy)
          rcases hs with ⟨hs, -⟩ | ⟨-, hs⟩
          · omega
          · exact a_cs X hRf hRl hd (hs _ hy9) hC.2 hc hC.1 kk (fun k e9 => kx k e9 (by
              by_cases e0 : m_hh q = []
              · exact Or.inl e0
              · exact (hok.2.2.2.2 e0 _ hmem ⟨_, Or.inl rfl⟩).elim))
        · cases hz
      · cases hz
  · rename_i n9 _
    obtain ⟨rfl, hs⟩ := hw
    split at hz
    · rw [Option.map_eq_some_iff] at hz
      obtain ⟨x, -, ez⟩ := hz
      cases ez
    · rename_i ha
      split at hz
      · rename_i y9 hy9
        split at hz
        · rename_i hc
          cases hz
          cases Option.some.inj (hy9.symm.trans hy)
          rcases hs with ⟨hs, -⟩ | ⟨-, hs⟩ | ⟨-, hb2, hs⟩
          · omega
          · exact a_ci X hRf hRl hd (hs _ hy9) hC.2 hc hC.1 kk
          · obtain ⟨c1, c2, c3, c4, c5, c6, c7⟩ := hc
            exact a_csu X hRf hRl hd (hs _ hy9) hC.2 ⟨c1, c2, c3, c4, c5, c7 hb2⟩ hC.1 kk (fun k e9 => kx k e9 (by
              by_cases e0 : m_hh q = []
              · exact Or.inl e0
              · exact (hok.2.2.2.2 e0 _ hmem ⟨_, Or.inr rfl⟩).elim))
        · cases hz
      · cases hz
  · exact (noins hz).elim
/-- the whole run of a method -/
theorem a_sound {K : Nat → List Value → a_H → Option (a_R × a_H)} (X : a_cx p s H0 m args meth c cc (m_y q).cls nL A xs L ad0 (m_ini q)) (hcc : m_cc q = cc) (hok : a_okm MT q) (hRf : m_fr q ≤ R.frames) (hRl : m_lo q ≤ R.locals)
    (hK : ∀ i y vs h r1 h1, MT i = some y → K i vs h = some (r1, h1) → a_Con l y xs L vs h r1 h1 ∧ (m_thr y = false → ∃ v, r1 = .inl v))
    (HR : ∀ pc ls st h cb nb, a_1 MT xs L q pc ls st h cb nb = some (.inr (.inr (res, h0))) → a_G p l e R s H0 m args below meth c Q D A nL ad0 n0 pc ls st h cb nb)
    (HX : ∀ pc k ls r h cb nb, a_hx q k h = some (res, h0) → (m_hh q = [] ∨ ∃ n r9, (pc, .invokevirtual n, r9) ∈ m_is q) → a_GX p l e R s H0 m args below meth c Q D A nL ad0 n0 pc ls r h cb nb k) :
    ∀ (f pc : Nat) (ls st : List Value) (h : a_H) (cb nb : Nat), a_ex K MT xs L q f pc ls st h cb nb = some (res, h0) → a_G p l e R s H0 m args below meth c Q D A nL ad0 n0 pc ls st h cb nb := by
  intro f
  induction f with
  | zero => intro pc ls st h cb nb hz; cases hz
  | succ f ih =>
    intro pc ls st h cb nb hz
    unfold a_ex at hz
    split at hz
    · cases hz
    · rename_i z h1
      exact a_s1 X hcc hok.2.1 hRf hRl h1 (ih _ _ _ _ _ _ hz)
    · rename_i z h1
      cases hz
      exact HR _ _ _ _ _ _ h1
    · rename_i z h1
      split at hz
      · rename_i y v h' hy hk
        exact a_k1 X hcc hok hRf hRl h1 hy (hK _ _ _ _ _ _ hy hk) (fun v9 e9 => by cases e9; exact ih _ _ _ _ _ _ hz) (fun k e9 => by cases e9)
      · rename_i y k h' hy hk
        exact a_k1 X hcc hok hRf hRl h1 hy (hK _ _ _ _ _ _ hy hk) (fun v9 e9 => by cases e9) (fun k9 e9 hpc => by cases e9; exact HX _ _ _ _ _ _ _ hz hpc)
      · cases hz
end A16
