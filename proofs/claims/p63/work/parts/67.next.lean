/-! The next token, said of a text t that both hold. -/
theorem nxt_congr {f f' : Nat → Bool} {len p : Nat} (h : ∀ i, i < len → f i = f' i) : nxt f len p = nxt f' len p := by
  unfold nxt
  rw [fstN_congr (q := fun i => f' (p + i)) (fun i hi => h _ (by omega))]
theorem ltr_congr {u t : Nat → Int32} {i : Nat} (h : u i = t i) : ltr u i = ltr t i := by unfold ltr; rw [h]
theorem dgt_congr {u t : Nat → Int32} {i : Nat} (h : u i = t i) : dgt u i = dgt t i := by unfold dgt; rw [h]
theorem blk_congr {u t : Nat → Int32} {i : Nat} (h : u i = t i) : blk u i = blk t i := by unfold blk; rw [h]
theorem tkS_congr {u t : Nat → Int32} {len p : Nat} (h : ∀ i, i < len → u i = t i) : tkS u len p = tkS t len p :=
  nxt_congr fun i hi => by rw [blk_congr (h i hi)]
theorem tkS_le {t : Nat → Int32} {len p : Nat} (hp : p ≤ len) : p ≤ tkS t len p ∧ tkS t len p ≤ len := nxt_le hp
theorem tkE_congr {u t : Nat → Int32} {len p : Nat} (hp : p ≤ len) (h : ∀ i, i < len → u i = t i) : tkE u len p = tkE t len p := by
  have hS := tkS_le (t := t) hp
  unfold tkE
  rw [tkS_congr h]
  by_cases he : tkS t len p = len
  · rw [if_pos he, if_pos he]
  · rw [if_neg he, if_neg he, ltr_congr (h _ (by omega)), dgt_congr (h _ (by omega)), nxt_congr (f := fun i => !ltr u i) (f' := fun i => !ltr t i) (fun i hi => by rw [ltr_congr (h i hi)]), nxt_congr (f := fun i => !dgt u i) (f' := fun i => !dgt t i) (fun i hi => by rw [dgt_congr (h i hi)])]
theorem tkK_congr {u t : Nat → Int32} {len p : Nat} (hp : p ≤ len) (h : ∀ i, i < len → u i = t i) : tkK u len p = tkK t len p := by
  have hS := tkS_le (t := t) hp
  unfold tkK
  rw [tkE_congr hp h, tkS_congr h]
  by_cases he : tkS t len p = len
  · rw [if_pos he, if_pos he]
  · rw [if_neg he, if_neg he, ltr_congr (h _ (by omega)), dgt_congr (h _ (by omega)), h _ (by omega)]
theorem numT_congr {u t : Nat → Int32} {len S k : Nat} (hk : S + k ≤ len) (h : ∀ i, i < len → u i = t i) : numT u S k = numT t S k := by
  induction k with
  | zero => rfl
  | succ k ih => rw [numT_succ, numT_succ, ih (by omega), h _ (by omega)]
/-- a token's end -/
theorem tkE_le {t : Nat → Int32} {len p : Nat} (hp : p ≤ len) : tkS t len p ≤ tkE t len p ∧ tkE t len p ≤ len ∧ (¬ tkK t len p = 0 → tkS t len p < len ∧ tkS t len p < tkE t len p) := by
  have hS := tkS_le (t := t) hp
  by_cases he : tkS t len p = len
  · have e1 : tkE t len p = len := by unfold tkE; rw [if_pos he]
    have e2 : tkK t len p = 0 := by unfold tkK; rw [if_pos he]
    exact ⟨by omega, by omega, fun h => absurd e2 h⟩
  · cases hl : ltr t (tkS t len p)
    · cases hd : dgt t (tkS t len p)
      · have e1 : tkE t len p = tkS t len p + 1 := by unfold tkE; rw [if_neg he, hl, hd]; rfl
        exact ⟨by omega, by omega, fun _ => by omega⟩
      · have e1 : tkE t len p = nxt (fun i => !dgt t i) len (tkS t len p) := by unfold tkE; rw [if_neg he, hl, hd]; rfl
        have hb := nxt_le (f := fun i => !dgt t i) hS.2
        have hn : ¬ nxt (fun i => !dgt t i) len (tkS t len p) = tkS t len p := fun e => by
          have := nxt_at (f := fun i => !dgt t i) (len := len) (p := tkS t len p) (by omega)
          rw [e] at this
          simp [hd] at this
        exact ⟨by omega, by omega, fun _ => by omega⟩
    · have e1 : tkE t len p = nxt (fun i => !ltr t i) len (tkS t len p) := by unfold tkE; rw [if_neg he, hl]; rfl
      have hb := nxt_le (f := fun i => !ltr t i) hS.2
      have hn : ¬ nxt (fun i => !ltr t i) len (tkS t len p) = tkS t len p := fun e => by
        have := nxt_at (f := fun i => !ltr t i) (len := len) (p := tkS t len p) (by omega)
        rw [e] at this
        simp [hl] at this
      exact ⟨by omega, by omega, fun _ => by omega⟩
/-- the letters of a word -/
theorem tk_word {t : Nat → Int32} {len p : Nat} (hK : tkK t len p = 1) : ∀ i, tkS t len p ≤ i → i < tkE t len p → ltr t i = true := by
  by_cases he : tkS t len p = len
  · unfold tkK at hK; rw [if_pos he] at hK; omega
  · cases hl : ltr t (tkS t len p)
    · unfold tkK at hK
      rw [if_neg he, hl] at hK
      simp only [Bool.false_eq_true, if_false] at hK
      split at hK
      · split at hK <;> omega
      · split at hK <;> omega
    · have e1 : tkE t len p = nxt (fun i => !ltr t i) len (tkS t len p) := by unfold tkE; rw [if_neg he, hl]; rfl
      intro i h1 h2
      rw [e1] at h2
      have := nxt_min (f := fun i => !ltr t i) h1 h2
      simpa using this
/-- the digits of a number -/
theorem tk_num {t : Nat → Int32} {len p : Nat} (hK : tkK t len p = 2) : tkE t len p - tkS t len p ≤ 4 ∧ ∀ i, tkS t len p ≤ i → i < tkE t len p → dgt t i = true := by
  by_cases he : tkS t len p = len
  · unfold tkK at hK; rw [if_pos he] at hK; omega
  · cases hl : ltr t (tkS t len p)
    · cases hd : dgt t (tkS t len p)
      · unfold tkK at hK
        rw [if_neg he, hl, hd] at hK
        simp only [Bool.false_eq_true, if_false] at hK
        split at hK <;> omega
      · have hK' := hK
        unfold tkK at hK'
        rw [if_neg he, hl, hd] at hK'
        simp only [Bool.false_eq_true, if_false, if_true] at hK'
        have e1 : tkE t len p = nxt (fun i => !dgt t i) len (tkS t len p) := by unfold tkE; rw [if_neg he, hl, hd]; rfl
        refine ⟨by split at hK' <;> omega, fun i h1 h2 => ?_⟩
        rw [e1] at h2
        have := nxt_min (f := fun i => !dgt t i) h1 h2
        simpa using this
    · unfold tkK at hK
      rw [if_neg he, hl] at hK
      simp only [if_true] at hK
      split at hK <;> omega
/-! the class's and the model's view of a text -/
def cX (t : Nat → Int32) (len : Nat) (σ : f_M) : Prop := σ 3 0 = 1 ∧ σ 3 1 = nI len ∧ len ≤ 600 ∧ (∀ i, i < len → σ 1 i = t i) ∧ σ 3 6 = nI 0 ∧ σ 3 7 = -1
def mX (t : Nat → Int32) (len : Nat) (τ : f_M) : Prop := τ 155 10 = nI len ∧ len ≤ 600 ∧ (∀ i, i < len → τ 161 i = t i) ∧ τ 155 17 = 0
def cT (t : Nat → Int32) (len : Nat) (σ : f_M) (p : Nat) : Prop := σ 3 3 = nI (tkS t len p) ∧ σ 3 4 = nI (tkE t len p) ∧ σ 3 2 = nI (tkK t len p)
def mT (t : Nat → Int32) (len : Nat) (τ : f_M) (p : Nat) : Prop := τ 155 13 = nI (tkS t len p) ∧ τ 155 14 = nI (tkE t len p) ∧ τ 155 15 = nI (tkK t len p) ∧ (tkK t len p = 2 → τ 155 16 = numT t (tkS t len p) (tkE t len p - tkS t len p))
/-- only the reader changed -/
def cFr (σ σ' : f_M) : Prop := ∀ r, r ≠ 3 → σ' r = σ r
/-- only the model's reading changed -/
def mFr (τ τ' : f_M) : Prop := (∀ r, r ≠ 155 → τ' r = τ r) ∧ ∀ i, (i < 13 ∨ 18 < i) → τ' 155 i = τ 155 i
theorem cFr.trans {a b c : f_M} (h1 : cFr a b) (h2 : cFr b c) : cFr a c := fun r h => (h2 r h).trans (h1 r h)
theorem mFr.trans {a b c : f_M} (h1 : mFr a b) (h2 : mFr b c) : mFr a c := ⟨fun r h => (h2.1 r h).trans (h1.1 r h), fun i h => (h2.2 i h).trans (h1.2 i h)⟩
theorem cFr.rfl' (a : f_M) : cFr a a := fun _ _ => rfl
theorem mFr.rfl' (a : f_M) : mFr a a := ⟨fun _ _ => rfl, fun _ _ => rfl⟩
theorem C_next {t : Nat → Int32} {len p : Nat} {σ : f_M} (x : cX t len σ) (h4 : σ 3 4 = nI p) (hp : p ≤ len) : ∃ σ', g_12 σ = some σ' ∧ cX t len σ' ∧ cT t len σ' p ∧ cFr σ σ' := by
  obtain ⟨x0, x1, xl, xt, x6, x7⟩ := x
  rw [C_tok x0 x1 h4 hp xl, tkS_congr xt, tkE_congr hp xt, tkK_congr hp xt]
  refine ⟨_, rfl, ⟨?_, ?_, xl, fun i hi => ?_, ?_, ?_⟩, ⟨?_, ?_, ?_⟩, fun r h => ?_⟩
  · simp (disch := omega) only [up_ix]; exact x0
  · simp (disch := omega) only [up_ix]; exact x1
  · simp (disch := omega) only [up_rows]; exact xt i hi
  · simp (disch := omega) only [up_ix]; exact x6
  · simp (disch := omega) only [up_ix]; exact x7
  · simp (disch := omega) only [up_ix, up_same]
  · simp (disch := omega) only [up_ix, up_same]
  · simp (disch := omega) only [up_ix, up_same]
  · rw [up_rows h, up_rows h, up_rows h]
theorem M_next {t : Nat → Int32} {len p : Nat} {τ : f_M} (x : mX t len τ) (h14 : τ 155 14 = nI p) (hp : p ≤ len) : ∃ τ', g_51 τ = some τ' ∧ mX t len τ' ∧ mT t len τ' p ∧ mFr τ τ' := by
  obtain ⟨x10, xl, xt, x17⟩ := x
  obtain ⟨τ', e, e13, e14, e15, e16, ef⟩ := M_tok x17 x10 h14 hp xl
  have hE := tkE_le (t := t) hp
  rw [tkS_congr xt] at e13 e16
  rw [tkE_congr hp xt] at e14 e16
  rw [tkK_congr hp xt] at e15 e16
  have er : ∀ r, r ≠ 155 → τ' r = τ r := fun r h => funext fun i => ef r i (Or.inl h)
  refine ⟨τ', e, ⟨?_, xl, fun i hi => ?_, ?_⟩, ⟨e13, e14, e15, fun h => ?_⟩, er, fun i h => ef 155 i (by omega)⟩
  · rw [ef 155 10 (by omega)]; exact x10
  · rw [er 161 (by omega)]; exact xt i hi
  · rw [ef 155 17 (by omega)]; exact x17
  · rw [e16 h]; exact numT_congr (by omega) xt
