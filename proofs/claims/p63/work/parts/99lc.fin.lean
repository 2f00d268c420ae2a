/-! The law's walk out of pure facts about the programs. -/
theorem w_tfun_N {tx : List Int32} : ∀ (d k N : Nat) (σ : f_M) (N' : Nat) (σ' : f_M), w_tfun tx d k N σ = some (N', σ') → N ≤ N' := by
  intro d
  induction d with
  | zero => intro k N σ N' σ' h; cases h
  | succ d ih =>
    intro k N σ N' σ' h
    unfold w_tfun at h
    split at h
    · rw [Option.map_eq_some_iff] at h
      obtain ⟨t, -, h2⟩ := h
      cases h2
      exact Nat.le_refl _
    · rw [Option.bind_eq_some_iff] at h
      obtain ⟨t, -, h2⟩ := h
      have := ih _ _ _ _ _ h2
      omega
theorem w_tx_l (xs : Nat → Int32) (L : Nat) : (w_tx xs L).length ≤ 100 := by
  have h1 := w_rt_l (w_r (w_cell xs L 0))
  have h2 := w_ht_l (xs := xs) (L := L) (w_hc (w_cell xs L 0))
  have h3 := w_at_l (x := w_cell xs L 0) (w_ac (w_cell xs L 0))
  have h4 := (w_hc_ok (w_cell xs L 0)).2.1
  have h5 := (w_ac_ok (w_cell xs L 0)).2.1
  unfold w_tx
  rw [List.length_append, List.length_append]
  omega
/-- all that is left: facts about the programs over flat memory -/
def w_Pure (xs : Nat → Int32) (L : Nat) : Prop := ∃ (σc : f_M) (d N : Nat) (σ1 : f_M) (v : Int32) (σ2 σ3 : f_M) (Inv : Nat → f_M → Prop), g_34 f_s0 = some σc ∧ (σc 3 0).toNatClampNeg < 181 ∧ w_tfun (w_tx xs L) d 0 181 (w_sg xs L σc) = some (N, σ1) ∧ g_33 σ1 = some (v, σ2) ∧ v = σ2 155 22 ∧ l_isLike σ2 = some (true, σ3) ∧ Inv 0 σ3 ∧
  ∀ k σ, k < 44 → Inv k σ → ∃ σ1, l_acts (w_cell xs L (5 + k)) (w_cell xs L (50 + k)) σ = some (true, σ1) ∧ (k % 4 = 3 → ∃ σ2, l_isLike σ1 = some (true, σ2) ∧ Inv (k + 1) σ2) ∧ (k % 4 ≠ 3 → Inv (k + 1) σ1)
theorem w_fin {p : Program} {e : Env} {s : State} {m : MethodId} {below : List Frame} {meth : Method} {c : Code} (l : Launch) (hflags : l.flags = flags0) {b L : Nat} {xs : Nat → Int32} (C0 : lw_At p s m meth c b L xs) (hL : L ≤ 260) (ht7 : a_tn xs = 7) (P : w_Pure xs L) :
    W p l e room_1 s m #[Value.ref b] below meth c s.heap [] 0 0 (lw_Z below #[Value.ref b] s) (entryFrame m ([Value.ref b] : List Value).toArray 6) := by
  obtain ⟨σc, d, N, σ1, v, σ2, σ3, Inv, p1, p2, p3, p4, p5, p6, p7, p8⟩ := P
  have hN := w_tfun_N _ _ _ _ _ _ p3
  refine w_whole l hflags C0 hL ht7 p1 p2 (fun c' n' h1 h2 => ?_)
  exact w_rest (xs := w_xs xs (w_tx xs L)) (L := L) (N := N) (x := w_cell xs L 0) (ac := w_ac (w_cell xs L 0)) (Inv := Inv) (σ1 := σ1) (σ2 := σ2) (σ3 := σ3) (v := v) (by omega) hN (fun k σ hk hI => by rw [w_cell_xs (by omega), w_cell_xs (by omega)]; exact p8 k σ hk hI) (w_toldR (w_tx_l xs L) p3) p4 p5 p6 p7 (by omega) (by omega)
/-- the law's entry, once the pure facts are there -/
theorem w_start (P : ∀ (xs : Nat → Int32) (L : Nat), L ≤ 260 → w_Pure xs L) {p : Program} {e : Env} {s : State} {m : MethodId} {below : List Frame} {meth : Method} {c : Code} (l : Launch) (hflags : l.flags = flags0) {b L : Nat} {xs : Nat → Int32} (hL : L ≤ 260) (C0 : lw_At p s m meth c b L xs) : W p l e room_1 s m #[Value.ref b] below meth c s.heap [] 0 0 (lw_Z below #[Value.ref b] s) (entryFrame m ([Value.ref b] : List Value).toArray 6) := by
  obtain ⟨hx, hb, hr, hml, hown, hts, hX, hbl, hlocks, hgv⟩ := C0
  refine w_fin (xs := fun j => if j < 998 then xs j else 0) l hflags ⟨hx, hb, hr, hml, hown, hts, va_X_xs hX (fun j hj => if_pos (by omega)), hbl, hlocks, hgv⟩ hL ?_ (P _ L hL)
  have e : (fun j => if j < 998 then xs j else 0 : Nat → Int32) 998 = 0 := rfl
  unfold a_tn
  rw [e]
  rfl
