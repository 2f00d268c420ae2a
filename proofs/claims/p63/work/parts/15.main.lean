/-! A run of the abstract machine is a run of the machine. -/
section A15
variable {p : Program} {l : Launch} {e : Env} {R : Room} {s : State} {H0 : Heap} {m : MethodId} {args : Array Value} {below : List Frame} {meth : Method} {c : Code} {Q : State → Prop}
variable {D : va_G} {A : Nat → Prop} {nL : Nat} {ad0 : Nat → Nat} {n0 : Nat} {cc : ByteArray} {xs : Nat → Int32} {L : Nat} {pc : Nat} {ls st r : List Value} {h h0 : a_H} {cb nb : Nat} {MT : Nat → Option a_Md} {q y : a_Md} {i : Instr} {len a b n : Nat} {res : a_R} {vs : List Value}
theorem a_row (hok : ∀ z ∈ m_is q, a_oke MT q z) (hcc : m_cc q = cc) (h1 : a_at (m_is q) pc = some (i, len, a, b)) : decode cc pc = .ok (i, len) ∧ a_okw MT q pc i len a b := by
  have := hok _ (a_at_mem h1)
  rw [← hcc]
  exact this
theorem a_hdl {hp : Nat} {v : Int32} {q9 : Nat} {ad : Nat → Nat} {ca : Nat → ClassId} {H : Heap} {locs : List Loc} {cells slots : Nat} {ls' : Array Slot} (X : a_cx p s s.heap m args meth c cc (m_y q).cls nL A xs L ad0 (m_ini q)) (hcc : m_cc q = cc) (hnL : m_nL q = nL) (hok : ∀ z ∈ m_is q, a_oke MT q z) (hr : meth.sig.returnType = some .int ∨ meth.sig.returnType = some .boolean) (hlocks : meth.locks = false) (hv : a_hv q hp = some v) (hv1 : v = 0 ∨ v = 1)
    (h1 : a_agr n0 ad0 ad) (h2 : n0 ≤ h.length) (h3 : a_L ad nL ls ls') (h6 : a_okh h) (h7 : a_Wd D ad ca h A s H) (h8 : va_S A s.heap H locs) (h9 : cells ≤ R.cells) (h10 : slots ≤ R.slots) :
    W p l e R s m args below meth c H locs cells slots (a_E below D ad0 n0 A (.inl (some (.int v))) h args s R) (F0 m hp ls' [.ref q9]) := by
  have fin : ∀ (pc2 : Nat) (ls2 : Array Slot) (v2 : Int) (r1 r2 : Nat × Nat × Nat), a_at (m_is q) pc2 = some (.iconst v2, r1) → a_at (m_is q) (pc2 + 1) = some (.ireturn, r2) → v = Int32.ofInt v2 → W p l e R s m args below meth c H locs cells slots (a_E below D ad0 n0 A (.inl (some (.int v))) h args s R) (F0 m pc2 ls2 []) := by
    intro pc2 ls2 v2 r1 r2 e1 e2 e3
    obtain ⟨len1, a1, b1⟩ := r1
    obtain ⟨len2, a2, b2⟩ := r2
    obtain ⟨d1, w1⟩ := a_row hok hcc e1
    obtain ⟨d2, w2⟩ := a_row hok hcc e2
    obtain rfl : len1 = 1 := w1
    obtain rfl : len2 = 1 := w2
    subst e3
    refine lv_iconst X.1 X.2.1 d1 rfl ?_
    refine W.widen (k := R.cells) (n := R.slots) h9 h10 (vx_ret ?_)
    rcases hr with hr | hr
    · exact W.zret X.1 X.2.1 hr rfl (fun t ht hW => a_end (fun w e i q => by cases e; cases q) h1 h2 h6 h7 h8 ht hW) h8.2.2 d2
    · exact W.zret X.1 X.2.1 hr (by rcases hv1 with e | e <;> rw [e] <;> rfl) (fun t ht hW => a_end (fun w e i q => by cases e; cases q) h1 h2 h6 h7 h8 ht hW) h8.2.2 d2
  unfold a_hv at hv
  split at hv
  · rename_i k r1 e1
    split at hv
    · rename_i hk
      split at hv
      · rename_i v2 r2 r3 e2 e3
        cases hv
        obtain ⟨len1, a1, b1⟩ := r1
        obtain ⟨d1, w1⟩ := a_row hok hcc e1
        obtain rfl : len1 = 1 := w1
        refine lv_astore_n (nL := nL) (lv := a_as ad ls) X.1 X.2.1 d1 rfl h3.has (by rw [← hnL]; exact hk) rfl (fun ls2 hl2 => ?_)
        exact fin (hp + 1) ls2 v2 r2 r3 e2 e3 rfl
      · cases hv
    · cases hv
  · rename_i k r1 e1
    split at hv
    · rename_i hk
      split at hv
      · rename_i v2 r2 r3 e2 e3
        cases hv
        obtain ⟨len1, a1, b1⟩ := r1
        obtain ⟨d1, w1⟩ := a_row hok hcc e1
        obtain rfl : len1 = 2 := w1
        refine lv_astore (nL := nL) (lv := a_as ad ls) X.1 X.2.1 d1 h3.has (by rw [← hnL]; exact hk) rfl (fun ls2 hl2 => ?_)
        exact fin (hp + 2) ls2 v2 r2 r3 e2 e3 rfl
      · cases hv
    · cases hv
  · cases hv
/-- an exception comes back at a call -/
theorem a_hxG {k : Nat} (X : a_cx p s s.heap m args meth c cc (m_y q).cls nL A xs L ad0 (m_ini q)) (hcc : m_cc q = cc) (hnL : m_nL q = nL) (hok : a_okm MT q) (hr : meth.sig.returnType = m_rt q) (hlocks : meth.locks = false) (htab : c.exceptionTable.toList = tableOf (m_hh q))
    (hz : a_hx q k h = some (res, h0)) (hpc : m_hh q = [] ∨ ∃ n r9, (pc, .invokevirtual n, r9) ∈ m_is q) : a_GX p l e R s s.heap m args below meth c (a_E below D ad0 n0 A res h0 args s R) D A nL ad0 n0 pc ls r h cb nb k := by
  unfold a_hx at hz
  split at hz
  · rename_i z hf
    obtain ⟨hz1, as, bs, hsp, has⟩ := List.find?_eq_some_iff_append.mp hf
    have hzk : z.2 = k := by simpa using hz1
    rw [Option.bind_eq_some_iff] at hz
    obtain ⟨v, hv, e9⟩ := hz
    split at e9
    rotate_left
    · cases e9
    rename_i hv1
    cases e9
    have hmem : z ∈ (m_hh q).zip (m_xk q) := List.mem_of_find?_eq_some hf
    have hne : m_hh q ≠ [] := fun e0 => by rw [e0] at hmem; cases hmem
    obtain ⟨hplain, hok1, hok2, hok3, hok4⟩ := hok
    rcases hok2 with hok2 | ⟨-, hrt, hlen, hlen1, hrows⟩
    · exact absurd hok2 hne
    obtain ⟨n9, r9, hm⟩ : ∃ n r9, (pc, .invokevirtual n, r9) ∈ m_is q := hpc.resolve_left hne
    have hfst : m_hh q = as.map (·.1) ++ z.1 :: bs.map (·.1) := by
      have h1 : ((m_hh q).zip (m_xk q)).map Prod.fst = m_hh q := List.map_fst_zip (Nat.le_of_eq hlen)
      rw [hsp, List.map_append, List.map_cons] at h1
      exact h1.symm
    have hcov : ∀ z9 ∈ (m_hh q).zip (m_xk q), z9.1.1 ≤ pc ∧ pc < z9.1.2.1 := fun z9 h9 => (hrows z9 h9).2.2.2.2 _ hm ⟨n9, rfl⟩
    intro ad ca H locs cells slots ls' ce q9 h1 h2 h3 h4 h6 h7 h8 h9 h10 hce hcv hcl
    obtain ⟨hc0, hk4, hlk, hcast, -⟩ := hrows z hmem
    have hsplit : c.exceptionTable.toList = tableOf (as.map (·.1)) ++ (⟨z.1.1, z.1.2.1, z.1.2.2.1, z.1.2.2.2⟩ : ExceptionTableEntry) :: tableOf (bs.map (·.1)) := by
      rw [htab, hfst]
      simp [tableOf]
    refine vx_catch (own := (m_y q).cls) (name := a_xn z.2) (E := a_xn k) X.2.2.2.1 _ _ _ hsplit (fun x hx => ?_) ?_ hc0 (X.2.2.2.2.1 _ hlk) ?_ hce hcv hcl ?_
    · exfalso
      have has0 : as = [] := by
        have e1 : ((m_hh q).zip (m_xk q)).length ≤ 1 := by rw [List.length_zip]; omega
        rw [hsp, List.length_append, List.length_cons] at e1
        exact List.eq_nil_of_length_eq_zero (by omega)
      subst has0
      cases hx
    · have := hcov z hmem
      simp [covers, this.1, this.2]
    · rw [hzk]
      rw [hzk] at hcast
      exact va_Nw.use rfl (X.2.2.2.2.2.2.1.2.2.2.2.2.2.2.2 _ hcast)
    · exact a_hdl X hcc hnL hok1 (by rw [hr]; exact hrt) hlocks hv hv1 h1 h2 h3 h6 h7 h8 (by omega) (by omega)
  · split at hz
    · rename_i hc
      cases hz
      exact a_out X (by rw [htab, hc.2.1]; rfl) hlocks hc.2.2
    · cases hz
end A15
