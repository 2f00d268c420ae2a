/-! Flat runs: calls, ends, joins, loops. -/
section A26b
variable {MT : Nat → Option a_Md} {xs : Nat → Int32} {L N N2 : Nat} {q y : a_Md} {pc pc' len a b : Nat} {ls ls' st r vs : List Value} {σ σ' : f_M} {c n c' n' : Nat} {o o' : Option f_W} {α β : Type}
theorem f_call {j : Nat} {as : List Value} (h1 : a_1 MT xs L q pc ls st (f_hp N σ) c n = some (.inr (.inl (j, as, (pc, ls, r, f_hp N σ, c, n))))) (hy : MT j = some y) (hG : f_Cal MT xs L N j as σ o') (hs : o' = none → o = none)
    (K : ∀ v σ', o' = some (.inl v, σ') → f_Sim MT xs L N N2 q (pc + 3) ls (v.toList ++ r) σ' (c - m_kc y) (n - m_kn y) o)
    (KX : ∀ k σ', o' = some (.inr k, σ') → ∀ w, o = some w → a_hx q k (f_hp N σ') = some (w.1, f_hp N2 w.2)) : f_Sim MT xs L N N2 q pc ls st σ c n o := by
  intro w hw
  cases ho : o' with
  | none => rw [hs ho] at hw; cases hw
  | some w' =>
    obtain ⟨r1, σ1⟩ := w'
    obtain ⟨F1, d1, e1⟩ := hG _ ho
    cases r1 with
    | inl v =>
      obtain ⟨F2, d2, f2, e2⟩ := K v σ1 ho w hw
      refine ⟨max F1 F2, max d1 d2, f2 + 1, ?_⟩
      unfold a_ex
      rw [h1]
      dsimp only
      rw [hy, a_run_mono (Nat.le_max_left F1 F2) d1 _ _ _ _ _ (Nat.le_max_left d1 d2) e1]
      exact a_ex_mono (fun i vs h w e => a_run_mono (Nat.le_max_right F1 F2) d2 _ i vs h w (Nat.le_max_right d1 d2) e) f2 f2 _ _ _ _ _ _ _ (Nat.le_refl _) e2
    | inr k =>
      refine ⟨F1, d1, 1, ?_⟩
      unfold a_ex
      rw [h1]
      dsimp only
      rw [hy, e1]
      exact KX k σ1 ho w hw
theorem f_len {ra : List Value} (hl : ra.length = m_na y) (hst : st = ra ++ r) : m_na y ≤ st.length ∧ st.take (m_na y) = ra ∧ st.drop (m_na y) = r := by
  subst hst
  rw [← hl]
  exact ⟨by simp, by simp, by simp⟩
/-- a call of a method of an object -/
theorem h_virt {i9 j o9 : Nat} {ra as : List Value} {fs : List Nat} (hat : a_at (m_is q) pc = some (.invokevirtual i9, len, j, b)) (hj : ¬ 1000 ≤ j) (hy : MT j = some y) (hst : st = ra ++ r) (hl : ra.length = m_na y) (has : ra.reverse = .ref o9 :: as) (hb : m_kc y ≤ c ∧ m_kn y ≤ n ∧ a_sum r ≤ 8) (hs : f_shape o9 = .inr (b, fs)) (hN : o9 < N) :
    a_1 MT xs L q pc ls st (f_hp N σ) c n = some (.inr (.inl (j, .ref o9 :: as, (pc, ls, r, f_hp N σ, c, n)))) := by
  obtain ⟨g1, g2, g3⟩ := f_len (r := r) hl hst
  have hne : 1 ≤ ra.length := by
    have := congrArg List.length has
    simp at this; omega
  have g4 : st[m_na y - 1]? = some (.ref o9) := by
    rw [hst, ← hl, List.getElem?_append_left (by omega)]
    have : ra.reverse[0]? = some (.ref o9) := by rw [has]; rfl
    rw [List.getElem?_reverse (by omega)] at this
    rw [← this]
    congr 1
  unfold a_1
  rw [hat]
  dsimp only
  rw [if_neg hj, hy]
  dsimp only
  rw [if_pos ⟨g1, hb.1, hb.2.1, by rw [g3]; exact hb.2.2, by omega, by rw [g4]; unfold a_isc; dsimp only; rw [f_hp_get hN, f_cellO hs]; dsimp only; exact beq_self_eq_true b⟩, g2, g3, has]
theorem h_stat {i9 j : Nat} {ra as : List Value} (hat : a_at (m_is q) pc = some (.invokestatic i9, len, j, b)) (hj : ¬ 1000 ≤ j) (hy : MT j = some y) (hst : st = ra ++ r) (hl : ra.length = m_na y) (has : ra.reverse = as) (hb : m_kc y ≤ c ∧ m_kn y ≤ n ∧ a_sum r ≤ 8) :
    a_1 MT xs L q pc ls st (f_hp N σ) c n = some (.inr (.inl (j, as, (pc, ls, r, f_hp N σ, c, n)))) := by
  obtain ⟨g1, g2, g3⟩ := f_len (r := r) hl hst
  unfold a_1
  rw [hat]
  dsimp only
  rw [if_neg hj, hy]
  dsimp only
  rw [if_pos ⟨g1, hb.1, hb.2.1, by rw [g3]; exact hb.2.2⟩, g2, g3, has]
/-! what kinds of methods answer -/
def e_wi (t : Int32 × f_M) : f_W := (.inl (some (.int t.1)), t.2)
def e_wb (t : Bool × f_M) : f_W := (.inl (some (.int (f_b t.1))), t.2)
def e_wd (t : UInt64 × f_M) : f_W := (.inl (some (.double t.1)), t.2)
def e_wf (t : UInt32 × f_M) : f_W := (.inl (some (.float t.1)), t.2)
def e_wv (t : f_M) : f_W := (.inl none, t)
def e_pi (σ : f_M) (t : Int32) : f_W := (.inl (some (.int t)), σ)
def e_pb (σ : f_M) (t : Bool) : f_W := (.inl (some (.int (f_b t))), σ)
def e_pd (σ : f_M) (t : UInt64) : f_W := (.inl (some (.double t)), σ)
def e_pf (σ : f_M) (t : UInt32) : f_W := (.inl (some (.float t)), σ)
def e_ti (σ : f_M) (t : Int32 ⊕ Fin 4) : f_W := Sum.elim (fun v => (.inl (some (.int v)), σ)) (fun k => (.inr k.val, σ)) t
def e_tb (σ : f_M) (t : Bool ⊕ Fin 4) : f_W := Sum.elim (fun v => (.inl (some (.int (f_b v))), σ)) (fun k => (.inr k.val, σ)) t
def e_tv (σ : f_M) (t : Unit ⊕ Fin 4) : f_W := Sum.elim (fun _ => (.inl none, σ)) (fun k => (.inr k.val, σ)) t
def e_xi (t : (Int32 ⊕ Fin 4) × f_M) : f_W := Sum.elim (fun v => (.inl (some (.int v)), t.2)) (fun k => (.inr k.val, t.2)) t.1
section calls
variable {j : Nat} {as : List Value} {f9 : β → Option α} {k9 : α → Option f_W}
theorem c_gen {x : Option β} {e : β → f_W} (h1 : a_1 MT xs L q pc ls st (f_hp N σ) c n = some (.inr (.inl (j, as, (pc, ls, r, f_hp N σ, c, n))))) (hy : MT j = some y) (hG : f_Cal MT xs L N j as σ (x.bind fun t => some (e t)))
    (K : ∀ t v σ', e t = (.inl v, σ') → f_Sim MT xs L N N2 q (pc + 3) ls (v.toList ++ r) σ' (c - m_kc y) (n - m_kn y) ((f9 t).bind k9))
    (KX : ∀ t k σ', e t = (.inr k, σ') → ∀ w, (f9 t).bind k9 = some w → a_hx q k (f_hp N σ') = some (w.1, f_hp N2 w.2)) : f_Sim MT xs L N N2 q pc ls st σ c n ((x.bind f9).bind k9) := by
  cases x with
  | none => exact f_none
  | some t =>
    refine f_call h1 hy hG (fun h => by cases h) (fun v σ' h => ?_) (fun k σ' h w hw => ?_)
    · exact K t v σ' (Option.some.inj h)
    · exact KX t k σ' (Option.some.inj h) w hw
end calls
section calls2
variable {j : Nat} {as : List Value} {k9 : α → Option f_W}
theorem c_wi {x : Option (Int32 × f_M)} {f9 : Int32 × f_M → Option α} (h1 : a_1 MT xs L q pc ls st (f_hp N σ) c n = some (.inr (.inl (j, as, (pc, ls, r, f_hp N σ, c, n))))) (hy : MT j = some y) (hG : f_Cal MT xs L N j as σ (x.bind fun t => some (e_wi t))) (hp : pc + 3 = pc' ∧ c - m_kc y = c' ∧ n - m_kn y = n')
    (K : ∀ t, f_Sim MT xs L N N2 q pc' ls (.int t.1 :: r) t.2 c' n' ((f9 t).bind k9)) : f_Sim MT xs L N N2 q pc ls st σ c n ((x.bind f9).bind k9) := by
  obtain ⟨rfl, rfl, rfl⟩ := hp
  exact c_gen h1 hy hG (fun t v σ' e => by cases e; exact K t) (fun t k σ' e => by cases e)
theorem c_wb {x : Option (Bool × f_M)} {f9 : Bool × f_M → Option α} (h1 : a_1 MT xs L q pc ls st (f_hp N σ) c n = some (.inr (.inl (j, as, (pc, ls, r, f_hp N σ, c, n))))) (hy : MT j = some y) (hG : f_Cal MT xs L N j as σ (x.bind fun t => some (e_wb t))) (hp : pc + 3 = pc' ∧ c - m_kc y = c' ∧ n - m_kn y = n')
    (K : ∀ t, f_Sim MT xs L N N2 q pc' ls (.int (f_b t.1) :: r) t.2 c' n' ((f9 t).bind k9)) : f_Sim MT xs L N N2 q pc ls st σ c n ((x.bind f9).bind k9) := by
  obtain ⟨rfl, rfl, rfl⟩ := hp
  exact c_gen h1 hy hG (fun t v σ' e => by cases e; exact K t) (fun t k σ' e => by cases e)
theorem c_wd {x : Option (UInt64 × f_M)} {f9 : UInt64 × f_M → Option α} (h1 : a_1 MT xs L q pc ls st (f_hp N σ) c n = some (.inr (.inl (j, as, (pc, ls, r, f_hp N σ, c, n))))) (hy : MT j = some y) (hG : f_Cal MT xs L N j as σ (x.bind fun t => some (e_wd t))) (hp : pc + 3 = pc' ∧ c - m_kc y = c' ∧ n - m_kn y = n')
    (K : ∀ t, f_Sim MT xs L N N2 q pc' ls (.double t.1 :: r) t.2 c' n' ((f9 t).bind k9)) : f_Sim MT xs L N N2 q pc ls st σ c n ((x.bind f9).bind k9) := by
  obtain ⟨rfl, rfl, rfl⟩ := hp
  exact c_gen h1 hy hG (fun t v σ' e => by cases e; exact K t) (fun t k σ' e => by cases e)
theorem c_wf {x : Option (UInt32 × f_M)} {f9 : UInt32 × f_M → Option α} (h1 : a_1 MT xs L q pc ls st (f_hp N σ) c n = some (.inr (.inl (j, as, (pc, ls, r, f_hp N σ, c, n))))) (hy : MT j = some y) (hG : f_Cal MT xs L N j as σ (x.bind fun t => some (e_wf t))) (hp : pc + 3 = pc' ∧ c - m_kc y = c' ∧ n - m_kn y = n')
    (K : ∀ t, f_Sim MT xs L N N2 q pc' ls (.float t.1 :: r) t.2 c' n' ((f9 t).bind k9)) : f_Sim MT xs L N N2 q pc ls st σ c n ((x.bind f9).bind k9) := by
  obtain ⟨rfl, rfl, rfl⟩ := hp
  exact c_gen h1 hy hG (fun t v σ' e => by cases e; exact K t) (fun t k σ' e => by cases e)
theorem c_wv {x : Option f_M} {f9 : f_M → Option α} (h1 : a_1 MT xs L q pc ls st (f_hp N σ) c n = some (.inr (.inl (j, as, (pc, ls, r, f_hp N σ, c, n))))) (hy : MT j = some y) (hG : f_Cal MT xs L N j as σ (x.bind fun t => some (e_wv t))) (hp : pc + 3 = pc' ∧ c - m_kc y = c' ∧ n - m_kn y = n')
    (K : ∀ t, f_Sim MT xs L N N2 q pc' ls r t c' n' ((f9 t).bind k9)) : f_Sim MT xs L N N2 q pc ls st σ c n ((x.bind f9).bind k9) := by
  obtain ⟨rfl, rfl, rfl⟩ := hp
  exact c_gen h1 hy hG (fun t v σ' e => by cases e; exact K t) (fun t k σ' e => by cases e)
theorem c_pi {x : Option Int32} {f9 : Int32 → Option α} (h1 : a_1 MT xs L q pc ls st (f_hp N σ) c n = some (.inr (.inl (j, as, (pc, ls, r, f_hp N σ, c, n))))) (hy : MT j = some y) (hG : f_Cal MT xs L N j as σ (x.bind fun t => some (e_pi σ t))) (hp : pc + 3 = pc' ∧ c - m_kc y = c' ∧ n - m_kn y = n')
    (K : ∀ t, f_Sim MT xs L N N2 q pc' ls (.int t :: r) σ c' n' ((f9 t).bind k9)) : f_Sim MT xs L N N2 q pc ls st σ c n ((x.bind f9).bind k9) := by
  obtain ⟨rfl, rfl, rfl⟩ := hp
  exact c_gen h1 hy hG (fun t v σ' e => by cases e; exact K t) (fun t k σ' e => by cases e)
theorem c_pb {x : Option Bool} {f9 : Bool → Option α} (h1 : a_1 MT xs L q pc ls st (f_hp N σ) c n = some (.inr (.inl (j, as, (pc, ls, r, f_hp N σ, c, n))))) (hy : MT j = some y) (hG : f_Cal MT xs L N j as σ (x.bind fun t => some (e_pb σ t))) (hp : pc + 3 = pc' ∧ c - m_kc y = c' ∧ n - m_kn y = n')
    (K : ∀ t, f_Sim MT xs L N N2 q pc' ls (.int (f_b t) :: r) σ c' n' ((f9 t).bind k9)) : f_Sim MT xs L N N2 q pc ls st σ c n ((x.bind f9).bind k9) := by
  obtain ⟨rfl, rfl, rfl⟩ := hp
  exact c_gen h1 hy hG (fun t v σ' e => by cases e; exact K t) (fun t k σ' e => by cases e)
theorem c_pd {x : Option UInt64} {f9 : UInt64 → Option α} (h1 : a_1 MT xs L q pc ls st (f_hp N σ) c n = some (.inr (.inl (j, as, (pc, ls, r, f_hp N σ, c, n))))) (hy : MT j = some y) (hG : f_Cal MT xs L N j as σ (x.bind fun t => some (e_pd σ t))) (hp : pc + 3 = pc' ∧ c - m_kc y = c' ∧ n - m_kn y = n')
    (K : ∀ t, f_Sim MT xs L N N2 q pc' ls (.double t :: r) σ c' n' ((f9 t).bind k9)) : f_Sim MT xs L N N2 q pc ls st σ c n ((x.bind f9).bind k9) := by
  obtain ⟨rfl, rfl, rfl⟩ := hp
  exact c_gen h1 hy hG (fun t v σ' e => by cases e; exact K t) (fun t k σ' e => by cases e)
theorem c_pf {x : Option UInt32} {f9 : UInt32 → Option α} (h1 : a_1 MT xs L q pc ls st (f_hp N σ) c n = some (.inr (.inl (j, as, (pc, ls, r, f_hp N σ, c, n))))) (hy : MT j = some y) (hG : f_Cal MT xs L N j as σ (x.bind fun t => some (e_pf σ t))) (hp : pc + 3 = pc' ∧ c - m_kc y = c' ∧ n - m_kn y = n')
    (K : ∀ t, f_Sim MT xs L N N2 q pc' ls (.float t :: r) σ c' n' ((f9 t).bind k9)) : f_Sim MT xs L N N2 q pc ls st σ c n ((x.bind f9).bind k9) := by
  obtain ⟨rfl, rfl, rfl⟩ := hp
  exact c_gen h1 hy hG (fun t v σ' e => by cases e; exact K t) (fun t k σ' e => by cases e)
theorem c_ti {x : Option (Int32 ⊕ Fin 4)} {A9 : Int32 → Option α} {B9 : Fin 4 → Option α} (h1 : a_1 MT xs L q pc ls st (f_hp N σ) c n = some (.inr (.inl (j, as, (pc, ls, r, f_hp N σ, c, n))))) (hy : MT j = some y) (hG : f_Cal MT xs L N j as σ (x.bind fun t => some (e_ti σ t))) (hp : pc + 3 = pc' ∧ c - m_kc y = c' ∧ n - m_kn y = n')
    (KX : ∀ (k : Fin 4) w, (B9 k).bind k9 = some w → a_hx q k.val (f_hp N σ) = some (w.1, f_hp N2 w.2)) (K : ∀ t, f_Sim MT xs L N N2 q pc' ls (.int t :: r) σ c' n' ((A9 t).bind k9)) : f_Sim MT xs L N N2 q pc ls st σ c n ((x.bind fun t => Sum.elim A9 B9 t).bind k9) := by
  obtain ⟨rfl, rfl, rfl⟩ := hp
  refine c_gen h1 hy hG (fun t v σ' e => ?_) (fun t k σ' e w hw => ?_)
  · cases t with
    | inl t => cases e; exact K t
    | inr k => cases e
  · cases t with
    | inl t => cases e
    | inr k => cases e; exact KX k w hw
theorem c_tb {x : Option (Bool ⊕ Fin 4)} {A9 : Bool → Option α} {B9 : Fin 4 → Option α} (h1 : a_1 MT xs L q pc ls st (f_hp N σ) c n = some (.inr (.inl (j, as, (pc, ls, r, f_hp N σ, c, n))))) (hy : MT j = some y) (hG : f_Cal MT xs L N j as σ (x.bind fun t => some (e_tb σ t))) (hp : pc + 3 = pc' ∧ c - m_kc y = c' ∧ n - m_kn y = n')
    (KX : ∀ (k : Fin 4) w, (B9 k).bind k9 = some w → a_hx q k.val (f_hp N σ) = some (w.1, f_hp N2 w.2)) (K : ∀ t, f_Sim MT xs L N N2 q pc' ls (.int (f_b t) :: r) σ c' n' ((A9 t).bind k9)) : f_Sim MT xs L N N2 q pc ls st σ c n ((x.bind fun t => Sum.elim A9 B9 t).bind k9) := by
  obtain ⟨rfl, rfl, rfl⟩ := hp
  refine c_gen h1 hy hG (fun t v σ' e => ?_) (fun t k σ' e w hw => ?_)
  · cases t with
    | inl t => cases e; exact K t
    | inr k => cases e
  · cases t with
    | inl t => cases e
    | inr k => cases e; exact KX k w hw
theorem c_tv {x : Option (Unit ⊕ Fin 4)} {A9 : Unit → Option α} {B9 : Fin 4 → Option α} (h1 : a_1 MT xs L q pc ls st (f_hp N σ) c n = some (.inr (.inl (j, as, (pc, ls, r, f_hp N σ, c, n))))) (hy : MT j = some y) (hG : f_Cal MT xs L N j as σ (x.bind fun t => some (e_tv σ t))) (hp : pc + 3 = pc' ∧ c - m_kc y = c' ∧ n - m_kn y = n')
    (KX : ∀ (k : Fin 4) w, (B9 k).bind k9 = some w → a_hx q k.val (f_hp N σ) = some (w.1, f_hp N2 w.2)) (K : f_Sim MT xs L N N2 q pc' ls r σ c' n' ((A9 ()).bind k9)) : f_Sim MT xs L N N2 q pc ls st σ c n ((x.bind fun t => Sum.elim A9 B9 t).bind k9) := by
  obtain ⟨rfl, rfl, rfl⟩ := hp
  refine c_gen h1 hy hG (fun t v σ' e => ?_) (fun t k σ' e w hw => ?_)
  · cases t with
    | inl t => cases e; exact K
    | inr k => cases e
  · cases t with
    | inl t => cases e
    | inr k => cases e; exact KX k w hw
def f_xe (A9 : Int32 → f_M → Option α) (B9 : Fin 4 → f_M → Option α) (t : (Int32 ⊕ Fin 4) × f_M) : Option α := Sum.elim (fun v => A9 v t.2) (fun k => B9 k t.2) t.1
theorem c_xi {x : Option ((Int32 ⊕ Fin 4) × f_M)} {A9 : Int32 → f_M → Option α} {B9 : Fin 4 → f_M → Option α} (h1 : a_1 MT xs L q pc ls st (f_hp N σ) c n = some (.inr (.inl (j, as, (pc, ls, r, f_hp N σ, c, n))))) (hy : MT j = some y) (hG : f_Cal MT xs L N j as σ (x.bind fun t => some (e_xi t))) (hp : pc + 3 = pc' ∧ c - m_kc y = c' ∧ n - m_kn y = n')
    (KX : ∀ (k : Fin 4) (s : f_M) w, (B9 k s).bind k9 = some w → a_hx q k.val (f_hp N s) = some (w.1, f_hp N2 w.2)) (K : ∀ t s, f_Sim MT xs L N N2 q pc' ls (.int t :: r) s c' n' ((A9 t s).bind k9)) : f_Sim MT xs L N N2 q pc ls st σ c n ((x.bind (f_xe A9 B9)).bind k9) := by
  obtain ⟨rfl, rfl, rfl⟩ := hp
  refine c_gen h1 hy hG (fun t v σ' e => ?_) (fun t k σ' e w hw => ?_)
  · obtain ⟨t, s⟩ := t
    cases t with
    | inl t => cases e; exact K t s
    | inr k => cases e
  · obtain ⟨t, s⟩ := t
    cases t with
    | inl t => cases e
    | inr k => cases e; exact KX k s w hw
end calls2
/-- an exception goes on through a method without handlers -/
theorem x_thr {k : Fin 4} {s : f_M} {w : f_W} (hq : m_thr q = true ∧ m_hh q = []) (h : some (.inr k.val, s) = some w) : a_hx q k.val (f_hp N s) = some (w.1, f_hp N w.2) := by
  cases h
  unfold a_hx
  rw [hq.2]
  simp only [List.zip_nil_left, List.find?_nil]
  rw [if_pos ⟨hq.1, trivial, k.isLt⟩]
/-- an exception ends in a handler -/
def f_hc (l : List (Nat × Int32)) (k : Fin 4) : Option Int32 := (l.find? fun z => z.1 == k.val).map (·.2)
theorem x_hdl {l : List (Nat × Int32)} {k : Fin 4} {s : f_M} {w : f_W} (H1 : ∀ k : Fin 4, ∀ v, f_hc l k = some v → v = 0 ∨ v = 1) (H : ∀ k : Fin 4, f_hc l k = none ∨ (((m_hh q).zip (m_xk q)).find? fun z => z.2 == k.val).bind (fun z => a_hv q z.1.2.2.1) = f_hc l k)
    (h : (((f_hc l k).bind fun v => some (v, s)).bind fun t => some (e_wi t)) = some w) : a_hx q k.val (f_hp N s) = some (w.1, f_hp N w.2) := by
  cases hv : f_hc l k with
  | none => rw [hv] at h; cases h
  | some v =>
    rw [hv] at h
    cases h
    rcases H k with h1 | h1
    · rw [hv] at h1; cases h1
    · rw [hv] at h1
      unfold a_hx
      cases hf : ((m_hh q).zip (m_xk q)).find? fun z => z.2 == k.val with
      | none => rw [hf] at h1; cases h1
      | some z =>
        rw [hf] at h1
        dsimp only
        have h2 : a_hv q z.1.2.2.1 = some v := h1
        rw [h2]
        show (if v = 0 ∨ v = 1 then some ((Sum.inl (some (Value.int v)) : a_R), f_hp N s) else none) = _
        rw [if_pos (H1 k v hv)]
        rfl
/-! ends -/
theorem i_iret {v : Int32} {ty : FieldType} (hat : a_at (m_is q) pc = some (.ireturn, len, a, b)) (hr : m_rt q = some ty) (hn : narrow ty (.int v) = .int v) : f_Sim MT xs L N N q pc ls [.int v] σ c n (some (.inl (some (.int v)), σ)) := by
  refine f_end ?_
  unfold a_1
  rw [hat]
  dsimp only
  rw [hr]
  dsimp only
  rw [if_pos hn]
theorem i_vret (hat : a_at (m_is q) pc = some (.return_, len, a, b)) (hr : m_rt q = none) : f_Sim MT xs L N N q pc ls [] σ c n (some (.inl none, σ)) := by
  refine f_end ?_
  unfold a_1
  rw [hat]
  dsimp only
  rw [if_pos hr]
theorem i_dret {v : UInt64} (hat : a_at (m_is q) pc = some (.dreturn, len, a, b)) (hr : m_rt q = some .double) : f_Sim MT xs L N N q pc ls [.double v] σ c n (some (.inl (some (.double v)), σ)) := by
  refine f_end ?_
  unfold a_1
  rw [hat]
  dsimp only
  rw [if_pos hr]
theorem i_fret {v : UInt32} (hat : a_at (m_is q) pc = some (.freturn, len, a, b)) (hr : m_rt q = some .float) : f_Sim MT xs L N N q pc ls [.float v] σ c n (some (.inl (some (.float v)), σ)) := by
  refine f_end ?_
  unfold a_1
  rw [hat]
  dsimp only
  rw [if_pos hr]
theorem i_thrw {i9 a9 : Nat} (hat : a_at (m_is q) pc = some (.new i9, len, a, b)) (ha : a = 100 + a9 ∧ a9 < 3) (hq : m_thr q = true ∧ m_hh q = []) (hc : 1 ≤ c ∧ 6 ≤ n ∧ a_sum st ≤ 8) : f_Sim MT xs L N N q pc ls st σ c n (some (.inr a9, σ)) := by
  refine f_end ?_
  unfold a_1
  rw [hat]
  dsimp only
  rw [if_pos (by omega), if_pos ⟨hq.1, hq.2, hc.1, hc.2.1, hc.2.2, by omega⟩, show a - 100 = a9 by omega]
theorem n_int {v : Int32} : narrow .int (.int v) = .int v := rfl
theorem n_bool {v : Bool} : narrow .boolean (.int (f_b v)) = .int (f_b v) := by cases v <;> decide
/-- a boolean out of the heap comes back -/
def f_z (v : Int32) : Option Bool := if v = 0 then some false else if v = 1 then some true else none
theorem i_zret {v : Int32} {f9 : Bool → Option α} {k9 : α → Option f_W} (hk : ∀ b, (f9 b).bind k9 = some (.inl (some (.int (f_b b))), σ)) (hat : a_at (m_is q) pc = some (.ireturn, len, a, b)) (hr : m_rt q = some .boolean) : f_Sim MT xs L N N q pc ls [.int v] σ c n (((f_z v).bind f9).bind k9) := by
  unfold f_z
  by_cases h0 : v = 0
  · subst h0
    show f_Sim MT xs L N N q pc ls _ σ c n ((f9 false).bind k9)
    rw [hk]
    exact i_iret (v := f_b false) hat hr n_bool
  · rw [if_neg h0]
    by_cases h1 : v = 1
    · subst h1
      show f_Sim MT xs L N N q pc ls _ σ c n ((f9 true).bind k9)
      rw [hk]
      exact i_iret (v := f_b true) hat hr n_bool
    · rw [if_neg h1]; exact f_none
theorem f_z_some {v : Int32} {b9 : Bool} (h : f_z v = some b9) : v = f_b b9 := by
  unfold f_z at h
  by_cases h0 : v = 0
  · rw [if_pos h0] at h; cases h; exact h0
  · rw [if_neg h0] at h
    by_cases h1 : v = 1
    · rw [if_pos h1] at h; cases h; exact h1
    · rw [if_neg h1] at h; cases h
theorem i_getZ {o9 ci k i9 : Nat} {fs : List Nat} {f9 : Bool → Option α} {k9 : α → Option f_W} (hat : a_at (m_is q) pc = some (.getfield i9, len, ci, k)) (hs : f_shape o9 = .inr (ci, fs)) (hf : fs[k]? = some 0) (hN : o9 < N) (hp : pc + 3 = pc') (K : ∀ b9 : Bool, f_Sim MT xs L N N2 q pc' ls (.int (f_b b9) :: st) σ c n ((f9 b9).bind k9)) : f_Sim MT xs L N N2 q pc ls (.ref o9 :: st) σ c n (((f_z (σ o9 k)).bind f9).bind k9) := by
  cases h : f_z (σ o9 k) with
  | none => exact f_none
  | some b9 =>
    refine i_getI hat hs hf hN hp ?_
    rw [f_z_some h]
    exact K b9
/-! joins and loops -/
theorem s_join {T U : Type} {x : Option T} {f : T → Option α} {k : α → Option f_W} {J : Nat} (lsJ : T → U → List Value) (stJ : T → List Value) (σJ : T → f_M) (hJ : ∀ t u, f_Sim MT xs L N N2 q J (lsJ t u) (stJ t) (σJ t) c n ((f t).bind k))
    (hx : ∀ k' : T → Option f_W, (∀ t u, f_Sim MT xs L N N2 q J (lsJ t u) (stJ t) (σJ t) c n (k' t)) → f_Sim MT xs L N N2 q pc ls st σ c n (x.bind k')) : f_Sim MT xs L N N2 q pc ls st σ c n ((x.bind f).bind k) := by
  rw [Option.bind_assoc]
  exact hx _ hJ
theorem s_joinc (cJ nJ : Nat) {T U : Type} {x : Option T} {f : T → Option α} {k : α → Option f_W} {J : Nat} (lsJ : T → U → List Value) (stJ : T → List Value) (σJ : T → f_M) (hJ : ∀ t u, f_Sim MT xs L N N2 q J (lsJ t u) (stJ t) (σJ t) cJ nJ ((f t).bind k))
    (hx : ∀ k' : T → Option f_W, (∀ t u, f_Sim MT xs L N N2 q J (lsJ t u) (stJ t) (σJ t) cJ nJ (k' t)) → f_Sim MT xs L N N2 q pc ls st σ c n (x.bind k')) : f_Sim MT xs L N N2 q pc ls st σ c n ((x.bind f).bind k) := by
  rw [Option.bind_assoc]
  exact hx _ hJ
theorem sw_s {x : Int32} (m : Nat) (h : ∀ j, j < m → x ≠ nI j) (hm : x ≠ nI m) : ∀ j, j < m + 1 → x ≠ nI j := fun j hj => by
  rcases Nat.lt_succ_iff_lt_or_eq.mp hj with h1 | rfl
  · exact h j h1
  · exact hm
theorem s_lp {S U A : Type} {body : S → Option (S ⊕ A)} {lsE : S → U → List Value} {σE : S → f_M} {g : A → Option f_W}
    (hb : ∀ s u (k' : S ⊕ A → Option f_W), (∀ s' u', f_Sim MT xs L N N2 q pc (lsE s' u') [] (σE s') c n (k' (.inl s'))) → (∀ z, k' (.inr z) = g z) → f_Sim MT xs L N N2 q pc (lsE s u) [] (σE s) c n ((body s).bind k')) :
    ∀ f s u, f_Sim MT xs L N N2 q pc (lsE s u) [] (σE s) c n ((f_lp body f s).bind g) := by
  intro f
  induction f with
  | zero => intro s u; exact f_none
  | succ f ih =>
    intro s u
    have e : (f_lp body (f + 1) s).bind g = (body s).bind (fun z => Sum.elim (fun s' => (f_lp body f s').bind g) (fun z => g z) z) := by
      show (((body s).bind fun z => Sum.elim (fun s' => f_lp body f s') (fun a => some a) z).bind g) = _
      cases body s with
      | none => rfl
      | some z => cases z <;> rfl
    rw [e]
    exact hb s u _ (fun s' u' => ih s' u') (fun z => rfl)
/-- a loop that is left to X alone -/
theorem s_lX {S U A V : Type} {body : S → Option (S ⊕ A)} {f : A → Option α} {k : α → Option f_W} {X F : Nat} (s0 : S) (u0 : U) (lsE : S → U → List Value) (σE : S → f_M) (lsX : A → V → List Value) (σX : A → f_M) (hX : ∀ z v, f_Sim MT xs L N N2 q X (lsX z v) [] (σX z) c n ((f z).bind k))
    (hb : ∀ s u (k' : S ⊕ A → Option f_W), (∀ s' u', f_Sim MT xs L N N2 q pc (lsE s' u') [] (σE s') c n (k' (.inl s'))) → (∀ z v, f_Sim MT xs L N N2 q X (lsX z v) [] (σX z) c n (k' (.inr z))) → f_Sim MT xs L N N2 q pc (lsE s u) [] (σE s) c n ((body s).bind k')) :
    f_Sim MT xs L N N2 q pc (lsE s0 u0) [] (σE s0) c n (((f_lp body F s0).bind f).bind k) := by
  rw [Option.bind_assoc]
  exact s_lp (fun s u k' h1 h2 => hb s u k' h1 (fun z v => by rw [h2]; exact hX z v)) F s0 u0
/-- a loop that is left by ends of the method alone -/
theorem s_lR {S U A : Type} {body : S → Option (S ⊕ A)} {f : A → Option α} {k : α → Option f_W} {F : Nat} (s0 : S) (u0 : U) (lsE : S → U → List Value) (σE : S → f_M)
    (hb : ∀ s u (k' : S ⊕ A → Option f_W), (∀ s' u', f_Sim MT xs L N N2 q pc (lsE s' u') [] (σE s') c n (k' (.inl s'))) → (∀ z, k' (.inr z) = (f z).bind k) → f_Sim MT xs L N N2 q pc (lsE s u) [] (σE s) c n ((body s).bind k')) :
    f_Sim MT xs L N N2 q pc (lsE s0 u0) [] (σE s0) c n (((f_lp body F s0).bind f).bind k) := by
  rw [Option.bind_assoc]
  exact s_lp (fun s u k' h1 h2 => hb s u k' h1 h2) F s0 u0
/-- both -/
theorem s_lB {S U A B V : Type} {body : S → Option (S ⊕ (A ⊕ B))} {f : A ⊕ B → Option α} {k : α → Option f_W} {X F : Nat} (s0 : S) (u0 : U) (lsE : S → U → List Value) (σE : S → f_M) (lsX : A → V → List Value) (σX : A → f_M) (hX : ∀ z v, f_Sim MT xs L N N2 q X (lsX z v) [] (σX z) c n ((f (.inl z)).bind k))
    (hb : ∀ s u (k' : S ⊕ (A ⊕ B) → Option f_W), (∀ s' u', f_Sim MT xs L N N2 q pc (lsE s' u') [] (σE s') c n (k' (.inl s'))) → (∀ z v, f_Sim MT xs L N N2 q X (lsX z v) [] (σX z) c n (k' (.inr (.inl z)))) → (∀ z, k' (.inr (.inr z)) = (f (.inr z)).bind k) → f_Sim MT xs L N N2 q pc (lsE s u) [] (σE s) c n ((body s).bind k')) :
    f_Sim MT xs L N N2 q pc (lsE s0 u0) [] (σE s0) c n (((f_lp body F s0).bind f).bind k) := by
  rw [Option.bind_assoc]
  exact s_lp (fun s u k' h1 h2 => hb s u k' h1 (fun z v => by rw [h2]; exact hX z v) (fun z => h2 (.inr z))) F s0 u0
theorem s_rt {T : Type} {t : T} {k' : T → Option f_W} (h : k' t = o) (K : f_Sim MT xs L N N2 q pc ls st σ c n o) : f_Sim MT xs L N N2 q pc ls st σ c n ((some t).bind k') := by
  show f_Sim MT xs L N N2 q pc ls st σ c n (k' t)
  rw [h]; exact K
/-! switches -/
theorem i_cas {P : Prop} [Decidable P] {A B : Option α} {k9 : α → Option f_W} (K1 : P → f_Sim MT xs L N N2 q pc ls st σ c n (A.bind k9)) (K2 : ¬ P → f_Sim MT xs L N N2 q pc ls st σ c n (B.bind k9)) : f_Sim MT xs L N N2 q pc ls st σ c n ((if P then A else B).bind k9) := by
  by_cases h : P
  · rw [if_pos h]; exact K1 h
  · rw [if_neg h]; exact K2 h
theorem i_sw {dflt lo hi off : Int} {offs : Array Int} {x v : Int32} (hat : a_at (m_is q) pc = some (.tableswitch dflt lo hi offs, len, a, b)) (hx : x = v) (hv : ¬ (v.toInt < lo ∨ hi < v.toInt) ∧ offs[(v.toInt - lo).toNat]? = some off) (hp : 0 ≤ (pc : Int) + off ∧ ((pc : Int) + off).toNat = pc') (K : f_Sim MT xs L N N2 q pc' ls st σ c n o) : f_Sim MT xs L N N2 q pc ls (.int x :: st) σ c n o := by
  subst hx
  obtain ⟨h0, rfl⟩ := hp
  exact f_stp (by unfold a_1; rw [hat]; simp only [a_ins, if_neg hv.1, hv.2, h0, if_true, Option.map_some]) K
theorem i_swd {dflt lo hi : Int} {offs : Array Int} {x : Int32} (hat : a_at (m_is q) pc = some (.tableswitch dflt lo hi offs, len, a, b)) (hx : x.toInt < lo ∨ hi < x.toInt) (hp : 0 ≤ (pc : Int) + dflt ∧ ((pc : Int) + dflt).toNat = pc') (K : f_Sim MT xs L N N2 q pc' ls st σ c n o) : f_Sim MT xs L N N2 q pc ls (.int x :: st) σ c n o := by
  obtain ⟨h0, rfl⟩ := hp
  exact f_stp (by unfold a_1; rw [hat]; simp only [a_ins, if_pos hx, h0, if_true, Option.map_some]) K
theorem sw_out {x : Int32} (m : Nat) (h : ∀ j, j < m → x ≠ nI j) : x.toInt < 0 ∨ (m : Int) - 1 < x.toInt := by
  by_cases h0 : x.toInt < 0
  · exact Or.inl h0
  · refine Or.inr (Int.lt_of_not_ge fun h1 => ?_)
    refine h x.toInt.toNat (by omega) ?_
    have h2 := Int32.toInt_lt x
    rw [← Int32.toInt_inj, nI_toInt (by omega), Int.toNat_of_nonneg (by omega)]
/-! floating numbers -/
theorem i_ddiv {x y : UInt64} {A : Option α} {k9 : α → Option f_W} (hat : a_at (m_is q) pc = some (.ddiv, len, a, b)) (hp : pc + 1 = pc') (K : f_Sim MT xs L N N2 q pc' ls (.double (FP.ddiv x y) :: st) σ c n (A.bind k9)) : f_Sim MT xs L N N2 q pc ls (.double y :: .double x :: st) σ c n ((if FP.ddiv x y &&& 0x7fffffffffffffff ≤ 0x7ff0000000000000 then A else none).bind k9) := by
  subst hp
  refine i_grd fun h => ?_
  exact f_stp (by unfold a_1; rw [hat]; simp only [a_ins, h, if_true, Option.map_some]) K
theorem i_fdiv {x y : UInt32} {A : Option α} {k9 : α → Option f_W} (hat : a_at (m_is q) pc = some (.fdiv, len, a, b)) (hp : pc + 1 = pc') (K : f_Sim MT xs L N N2 q pc' ls (.float (FP.fdiv x y) :: st) σ c n (A.bind k9)) : f_Sim MT xs L N N2 q pc ls (.float y :: .float x :: st) σ c n ((if FP.fdiv x y &&& 0x7fffffff ≤ 0x7f800000 then A else none).bind k9) := by
  subst hp
  refine i_grd fun h => ?_
  exact f_stp (by unfold a_1; rw [hat]; simp only [a_ins, h, if_true, Option.map_some]) K
theorem i_f2d {x : UInt32} {A : Option α} {k9 : α → Option f_W} (hat : a_at (m_is q) pc = some (.f2d, len, a, b)) (hp : pc + 1 = pc') (K : f_Sim MT xs L N N2 q pc' ls (.double (FP.f2d x) :: st) σ c n (A.bind k9)) : f_Sim MT xs L N N2 q pc ls (.float x :: st) σ c n ((if FP.f2d x &&& 0x7fffffffffffffff ≤ 0x7ff0000000000000 then A else none).bind k9) := by
  subst hp
  refine i_grd fun h => ?_
  exact f_stp (by unfold a_1; rw [hat]; simp only [a_ins, h, if_true, Option.map_some]) K
theorem i_dcmp {x y : UInt64} {op : CmpOp} (hat : a_at (m_is q) pc = some (.dcmp op, len, a, b)) (hp : pc + 1 = pc') (K : f_Sim MT xs L N N2 q pc' ls (.int (Op.cmpValue (FP.dcmp x y) op) :: st) σ c n o) : f_Sim MT xs L N N2 q pc ls (.double y :: .double x :: st) σ c n o := by
  subst hp
  exact f_stp (by unfold a_1; rw [hat]; rfl) K
/-! the table's rows by their places -/
def f_inc : List (Nat × Instr × Nat × Nat × Nat) → Bool
  | [] => true
  | z :: t => (match t with
    | [] => true
    | w :: _ => Nat.blt z.1 w.1) && f_inc t
theorem f_inc_lt : ∀ (is : List (Nat × Instr × Nat × Nat × Nat)) (z : Nat × Instr × Nat × Nat × Nat), f_inc (z :: is) = true → ∀ w ∈ is, z.1 < w.1 := by
  intro is
  induction is with
  | nil => intro z _ w hw; cases hw
  | cons v t ih =>
    intro z h w hw
    unfold f_inc at h
    rw [Bool.and_eq_true] at h
    have h1 : z.1 < v.1 := by
      have := h.1
      simpa [Nat.blt_eq] using this
    rcases List.mem_cons.mp hw with rfl | hw
    · exact h1
    · exact Nat.lt_trans h1 (ih v h.2 w hw)
theorem f_at : ∀ {is : List (Nat × Instr × Nat × Nat × Nat)} {j pc : Nat} {r : Instr × Nat × Nat × Nat}, f_inc is = true → is[j]? = some (pc, r) → a_at is pc = some r := by
  intro is
  induction is with
  | nil => intro j pc r _ h; simp at h
  | cons z t ih =>
    intro j pc r hi h
    cases j with
    | zero =>
      simp at h
      subst h
      simp [a_at]
    | succ j =>
      simp at h
      have hlt := f_inc_lt t z hi _ (List.mem_of_getElem? h)
      have hi2 : f_inc t = true := by
        unfold f_inc at hi
        rw [Bool.and_eq_true] at hi
        exact hi.2
      have := ih hi2 h
      unfold a_at at this ⊢
      rw [List.find?_cons]
      have hne : (z.1 == pc) = false := by
        have hlt' : z.1 < pc := hlt
        exact beq_false_of_ne (Nat.ne_of_lt hlt')
      rw [hne]
      exact this
end A26b
