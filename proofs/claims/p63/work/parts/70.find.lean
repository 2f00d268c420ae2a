/-! Which holder has the name: class and model. -/
theorem if_nft' {c : Prop} [Decidable c] : (if ¬ c then (some false : Option Bool) else some true) = some (decide c) := by by_cases h : c <;> simp [h]
theorem byte_n : ∀ m : Fin 128, (nI m.val).toInt8.toInt32 = nI m.val := by decide +kernel
theorem ltr_n {t : Nat → Int32} {i : Nat} (h : ltr t i = true) : ∃ m, 97 ≤ m ∧ m ≤ 122 ∧ t i = nI m := by
  unfold ltr at h
  simp only [Bool.and_eq_true, Bool.not_eq_true', decide_eq_false_iff_not] at h
  rcases n_cases (t i) with h0 | ⟨m, hm, e⟩
  · exact absurd (Int32.lt_trans h0 (by decide)) h.1
  · rw [e, n_lt hm (by omega), n_lt (by omega) hm] at h
    exact ⟨m, by omega, by omega, e⟩
theorem ltr_byte {t : Nat → Int32} {i : Nat} (h : ltr t i = true) : (t i).toInt8.toInt32 = t i := by
  obtain ⟨m, h1, h2, e⟩ := ltr_n h
  rw [e]
  exact byte_n ⟨m, by omega⟩
theorem C_17 {σ : f_M} {a h k : Nat} (hh : 6 * h + k < 48) : g_17 a (nI h) (nI k) σ = some (σ (a + 2) (6 * h + k)) := by
  unfold g_17
  rw [show (6 : Int32) = nI 6 from rfl, n_mul, n_add, Nat.mul_comm h 6, f_rd_n hh (by omega), bnd]
theorem C_18 {t : Nat → Int32} {len p k : Nat} {σ : f_M} (x : cX t len σ) (ct : cT t len σ p) (hp : p ≤ len) (hK : tkK t len p = 1) (hk : k < tkE t len p - tkS t len p) : g_18 (nI k) σ = some (t (tkS t len p + k)) := by
  have hE := tkE_le (t := t) hp
  have xl := x.2.2.1
  have hb := ltr_byte (tk_word hK (tkS t len p + k) (by omega) (by omega))
  unfold g_18
  rw [if_neg (n_neg (by omega)), ct.2.1, ct.1, n_sub hE.1, if_neg (by rw [n_le (by omega) (by omega)]; omega), if_pos x.1, n_add, f_rd_n (by omega) (by omega), bnd, bnd, x.2.2.2.1 _ (by omega), if_pos hb]
def cm (σ : f_M) (a : Nat) (t : Nat → Int32) (S n h : Nat) : Bool := decide (σ (a + 1) h = nI n) && decide (fstN (fun k => !decide (σ (a + 2) (6 * h + k) = t (S + k))) n = n)
def mm (s : Nat → Int32) (t : Nat → Int32) (S n h : Nat) : Bool := decide (s (20 + 9 * h) = nI n) && decide (fstN (fun k => !decide (s (20 + 9 * h + 1 + k) = t (S + k))) n = n)
theorem C_19 {t : Nat → Int32} {len p a h : Nat} {σ : f_M} (x : cX t len σ) (ct : cT t len σ p) (hp : p ≤ len) (hK : tkK t len p = 1) (h6 : tkE t len p - tkS t len p ≤ 6) (hh : h < 8) : g_19 a (nI h) σ = some (cm σ a t (tkS t len p) (tkE t len p - tkS t len p) h) := by
  have hE := tkE_le (t := t) hp
  have h11 := C_11 ct hp
  have h18 := fun k hk => C_18 (k := k) x ct hp hK hk
  generalize tkE t len p - tkS t len p = n at *
  generalize tkS t len p = S at *
  unfold g_19 cm
  rw [f_rd_n hh (by omega), bnd, h11, bnd]
  by_cases hl : σ (a + 1) h = nI n
  · rw [if_pos hl, decide_eq_true hl, Bool.true_and]
    have hle := fstN_le (fun k => !decide (σ (a + 2) (6 * h + k) = t (S + k))) n
    rw [lp_go (fun j => nI j) (fstN (fun k => !decide (σ (a + 2) (6 * h + k) = t (S + k))) n) (r := decide (fstN (fun k => !decide (σ (a + 2) (6 * h + k) = t (S + k))) n = n)) ?_ (f_F_lt (by omega)) ?_ ?_, bnd]
    · rfl
    · intro j hj
      have hm : (!decide (σ (a + 2) (6 * h + j) = t (S + j))) = false := fstN_min hj
      have hm' : σ (a + 2) (6 * h + j) = t (S + j) := by simpa using hm
      rw [bnd, hl, if_neg (by rw [n_le (by omega) (by omega)]; omega), C_17 (by omega), bnd, h18 j (by omega), bnd, if_pos hm', show (1 : Int32) = nI 1 from rfl, n_add]
    · by_cases he : fstN (fun k => !decide (σ (a + 2) (6 * h + k) = t (S + k))) n = n
      · rw [he, bnd, hl, if_pos (by rw [n_le (by omega) (by omega)]; omega), decide_eq_true rfl]
      · have hm : (!decide (σ (a + 2) (6 * h + fstN (fun k => !decide (σ (a + 2) (6 * h + k) = t (S + k))) n) = t (S + fstN (fun k => !decide (σ (a + 2) (6 * h + k) = t (S + k))) n))) = true := fstN_lt (p := fun k => !decide (σ (a + 2) (6 * h + k) = t (S + k))) (by omega)
        rw [decide_eq_false he]
        generalize fstN (fun k => !decide (σ (a + 2) (6 * h + k) = t (S + k))) n = j at *
        have hm' : ¬ σ (a + 2) (6 * h + j) = t (S + j) := by simpa using hm
        rw [bnd, hl, if_neg (by rw [n_le (by omega) (by omega)]; omega), C_17 (by omega), bnd, h18 j (by omega), bnd, if_neg hm']
  · rw [if_neg hl, decide_eq_false hl, Bool.false_and]
theorem C_find {t : Nat → Int32} {len p a hc : Nat} {σ : f_M} (x : cX t len σ) (ct : cT t len σ p) (hp : p ≤ len) (hK : tkK t len p = 1) (h6 : tkE t len p - tkS t len p ≤ 6) (h0 : σ a 0 = nI hc) (hhc : hc ≤ 8) : g_20 a σ = some (if fstN (cm σ a t (tkS t len p) (tkE t len p - tkS t len p)) hc < hc then nI (fstN (cm σ a t (tkS t len p) (tkE t len p - tkS t len p)) hc) else -1) := by
  have h19 := fun h hh => C_19 (a := a) (h := h) x ct hp hK h6 hh
  generalize cm σ a t (tkS t len p) (tkE t len p - tkS t len p) = f at *
  have hle := fstN_le f hc
  unfold g_20
  rw [lp_go (fun j => nI j) (fstN f hc) (r := if fstN f hc < hc then nI (fstN f hc) else -1) ?_ (f_F_lt (by omega)) ?_ ?_, bnd]
  · rfl
  · intro j hj
    have hu := fstN_min hj
    rw [h0, if_neg (by rw [n_le (by omega) (by omega)]; omega), h19 j (by omega), bnd, hu, if_pos rfl, show (1 : Int32) = nI 1 from rfl, n_add]
  · by_cases h : fstN f hc < hc
    · have hu := fstN_lt h
      rw [h0, if_neg (by rw [n_le (by omega) (by omega)]; omega), h19 _ (by omega), bnd, hu, if_neg (by decide), if_pos h]
    · rw [h0, if_pos (by rw [n_le (by omega) (by omega)]; omega), if_neg h]
theorem M_same {t : Nat → Int32} {S n h : Nat} {τ : f_M} (h8 : τ 155 8 = nI n) (hn : n ≤ 6) (hl : ∀ k, k < n → τ 160 k = t (S + k)) (hh : h < 8) (b : Bool) : f_lp (fun (s7 : Bool × Int32) =>
     if (τ 155 8) ≤ s7.2 then (
      some (.inr s7.1)
     ) else (
      if s7.1 = false then (
       some (.inr s7.1)
      ) else (
       (some (nI (20 + 9 * h))).bind fun t8 =>
       (f_rd τ 156 2420 ((t8 + (1 : Int32)) + s7.2)).bind fun v9 =>
       (f_rd τ 160 6 s7.2).bind fun v10 =>
       (
        if ¬ v9 = v10 then (
         some false
        ) else (
         some true
        )
       ).bind fun (t11 : Bool) =>
       some (.inl (t11, (s7.2 + (1 : Int32))))
      )
     )
    ) f_F (b, (0 : Int32)) = some (b && decide (fstN (fun k => !decide (τ 156 (20 + 9 * h + 1 + k) = t (S + k))) n = n)) := by
  have hle := fstN_le (fun k => !decide (τ 156 (20 + 9 * h + 1 + k) = t (S + k))) n
  have hmin : ∀ k, k < fstN (fun k => !decide (τ 156 (20 + 9 * h + 1 + k) = t (S + k))) n → τ 156 (20 + 9 * h + 1 + k) = t (S + k) := fun k hk => by
    have hm : (!decide (τ 156 (20 + 9 * h + 1 + k) = t (S + k))) = false := fstN_min hk
    simpa using hm
  have hat : fstN (fun k => !decide (τ 156 (20 + 9 * h + 1 + k) = t (S + k))) n < n → ¬ τ 156 (20 + 9 * h + 1 + fstN (fun k => !decide (τ 156 (20 + 9 * h + 1 + k) = t (S + k))) n) = t (S + fstN (fun k => !decide (τ 156 (20 + 9 * h + 1 + k) = t (S + k))) n) := fun hk => by
    have hm := fstN_lt hk
    simpa using hm
  generalize fstN (fun k => !decide (τ 156 (20 + 9 * h + 1 + k) = t (S + k))) n = F at *
  have step : ∀ j, j < n → ((some (nI (20 + 9 * h))).bind fun t8 =>
       (f_rd τ 156 2420 ((t8 + (1 : Int32)) + nI j)).bind fun v9 =>
       (f_rd τ 160 6 (nI j)).bind fun v10 =>
       (
        if ¬ v9 = v10 then (
         some false
        ) else (
         some true
        )
       ).bind fun (t11 : Bool) =>
       some (Sum.inl (β := Bool) (t11, (nI j + (1 : Int32))))) = some (.inl (decide (τ 156 (20 + 9 * h + 1 + j) = t (S + j)), nI (j + 1))) := fun j hj => by
    rw [bnd, show (1 : Int32) = nI 1 from rfl, n_add, n_add, f_rd_n (by omega) (by omega), bnd, f_rd_n (by omega) (by omega), bnd, hl j hj, if_nft', bnd, n_add]
  cases b
  · rw [Bool.false_and]
    refine lp_go (fun _ => (false, (0 : Int32))) 0 rfl (f_F_lt (by omega)) (fun j hj => by omega) ?_
    dsimp only
    by_cases h0 : τ 155 8 ≤ 0
    · rw [if_pos h0]
    · rw [if_neg h0, if_pos rfl]
  · rw [Bool.true_and]
    by_cases hF : F = n
    · subst hF
      rw [decide_eq_true rfl]
      refine lp_go (fun j => (true, nI j)) F rfl (f_F_lt (by omega)) (fun j hj => ?_) ?_
      · simp only [h8]
        rw [if_neg (by rw [n_le (by omega) (by omega)]; omega), if_neg (by decide), step j hj, hmin j hj, decide_eq_true rfl]
      · simp only [h8]
        rw [if_pos (by rw [n_le (by omega) (by omega)]; omega)]
    · rw [decide_eq_false hF]
      refine lp_go (fun j => if j ≤ F then (true, nI j) else (false, nI (F + 1))) (F + 1) ?_ (f_F_lt (by omega)) (fun j hj => ?_) ?_
      · rw [if_pos (by omega)]; rfl
      · rw [if_pos (by omega : j ≤ F)]
        simp only [h8]
        rw [if_neg (by rw [n_le (by omega) (by omega)]; omega), if_neg (by decide), step j (by omega)]
        by_cases hjF : j = F
        · subst hjF
          rw [decide_eq_false (hat (by omega)), if_neg (by omega)]
        · rw [hmin j (by omega), decide_eq_true rfl, if_pos (by omega)]
      · rw [if_neg (show ¬ F + 1 ≤ F by omega)]
        simp only [h8]
        by_cases h9 : n ≤ F + 1
        · rw [if_pos (by rw [n_le (by omega) (by omega)]; omega)]
        · rw [if_neg (by rw [n_le (by omega) (by omega)]; omega), if_pos trivial]
theorem M_find {t : Nat → Int32} {S n hc : Nat} {τ : f_M} (h8 : τ 155 8 = nI n) (hn : n ≤ 6) (hl : ∀ k, k < n → τ 160 k = t (S + k)) (h2 : τ 156 2 = nI hc) (hhc : hc ≤ 8) : g_56 τ = some (if fstN (mm (τ 156) t S n) hc < hc then nI (fstN (mm (τ 156) t S n) hc) else -1) := by
  have hle := fstN_le (mm (τ 156) t S n) hc
  have body : ∀ j, j < hc → ((g_36 (nI j) τ).bind fun t3 =>
    (f_rd τ 156 2420 t3).bind fun v4 =>
    (
     if ¬ v4 = (τ 155 8) then (
      some false
     ) else (
      some true
     )
    ).bind fun (t5 : Bool) =>
    (f_lp (fun (s7 : Bool × Int32) =>
     if (τ 155 8) ≤ s7.2 then (
      some (.inr s7.1)
     ) else (
      if s7.1 = false then (
       some (.inr s7.1)
      ) else (
       (g_36 (nI j) τ).bind fun t8 =>
       (f_rd τ 156 2420 ((t8 + (1 : Int32)) + s7.2)).bind fun v9 =>
       (f_rd τ 160 6 s7.2).bind fun v10 =>
       (
        if ¬ v9 = v10 then (
         some false
        ) else (
         some true
        )
       ).bind fun (t11 : Bool) =>
       some (.inl (t11, (s7.2 + (1 : Int32))))
      )
     )
    ) f_F (t5, (0 : Int32))).bind fun (x7 : Bool) =>
    if x7 = false then (
     some (Sum.inl (β := Int32) (nI j + (1 : Int32)))
    ) else (
     some (.inr (nI j))
    )) = if mm (τ 156) t S n j = false then some (.inl (nI (j + 1))) else some (.inr (nI j)) := fun j hj => by
    rw [M_h, bnd, f_rd_n (by omega) (by omega), bnd, if_nft', bnd, M_same h8 hn hl (by omega), bnd, h8, show (1 : Int32) = nI 1 from rfl, n_add]
    rfl
  unfold g_56
  rw [lp_go (fun j => nI j) (fstN (mm (τ 156) t S n) hc) (r := if fstN (mm (τ 156) t S n) hc < hc then nI (fstN (mm (τ 156) t S n) hc) else -1) ?_ (f_F_lt (by omega)) ?_ ?_, bnd]
  · rfl
  · intro j hj
    have hu := fstN_min hj
    rw [show (2 : Int32) = nI 2 from rfl, f_rd_n (by omega) (by omega), bnd, h2, if_neg (by rw [n_le (by omega) (by omega)]; omega), body j (by omega), if_pos hu]
  · rw [show (2 : Int32) = nI 2 from rfl, f_rd_n (by omega) (by omega), bnd, h2]
    by_cases h : fstN (mm (τ 156) t S n) hc < hc
    · have hu := fstN_lt h
      rw [if_neg (by rw [n_le (by omega) (by omega)]; omega), body _ h, hu, if_neg (by decide), if_pos h]
    · rw [if_pos (by rw [n_le (by omega) (by omega)]; omega), if_neg h]
/-- the names of a class's setup at a against a row -/
def rNm (σ : f_M) (a : Nat) (s : Nat → Int32) (hc : Nat) : Prop := ∀ h, h < hc → ∃ n, 1 ≤ n ∧ n ≤ 6 ∧ σ (a + 1) h = nI n ∧ s (20 + 9 * h) = nI n ∧ ∀ k, k < n → σ (a + 2) (6 * h + k) = s (20 + 9 * h + 1 + k)
theorem cm_mm {σ : f_M} {a : Nat} {s t : Nat → Int32} {hc S n : Nat} (hn : n ≤ 6) (r : rNm σ a s hc) : fstN (cm σ a t S n) hc = fstN (mm s t S n) hc := by
  refine fstN_congr fun h hh => ?_
  obtain ⟨m, m1, m2, e1, e2, e3⟩ := r h hh
  unfold cm mm
  rw [e1, e2]
  by_cases e : m = n
  · subst e
    rw [fstN_congr (q := fun k => !decide (s (20 + 9 * h + 1 + k) = t (S + k))) (fun k hk => by rw [e3 k hk])]
  · rw [decide_eq_false (by rw [n_eq (by omega) (by omega)]; exact e), Bool.false_and, Bool.false_and]
