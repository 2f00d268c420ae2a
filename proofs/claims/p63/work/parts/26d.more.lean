/-! More kinds of calls: a method that throws nothing and answers nothing; a call whose throw is not followed; a handler that answers a truth; a new row of five numbers. -/
section A26d
variable {MT : Nat → Option a_Md} {xs : Nat → Int32} {L N N2 : Nat} {q y : a_Md} {pc pc' len a b : Nat} {ls ls' st r vs : List Value} {σ σ' : f_M} {c n c' n' : Nat} {o o' : Option f_W} {α β : Type}
def e_pv (σ : f_M) (_ : Unit) : f_W := (.inl none, σ)
theorem c_pv {j : Nat} {as : List Value} {k9 : α → Option f_W} {x : Option Unit} {f9 : Unit → Option α} (h1 : a_1 MT xs L q pc ls st (f_hp N σ) c n = some (.inr (.inl (j, as, (pc, ls, r, f_hp N σ, c, n))))) (hy : MT j = some y) (hG : f_Cal MT xs L N j as σ (x.bind fun t => some (e_pv σ t))) (hp : pc + 3 = pc' ∧ c - m_kc y = c' ∧ n - m_kn y = n')
    (K : f_Sim MT xs L N N2 q pc' ls r σ c' n' ((f9 ()).bind k9)) : f_Sim MT xs L N N2 q pc ls st σ c n ((x.bind f9).bind k9) := by
  obtain ⟨rfl, rfl, rfl⟩ := hp
  exact c_gen h1 hy hG (fun t v σ' e => by cases e; exact K) (fun t k σ' e => by cases e)
/-- what comes back where nothing is thrown -/
def f_nt (x : Option ((α ⊕ Fin 4) × f_M)) : Option (α × f_M) := x.bind fun t => Sum.elim (fun v => some (v, t.2)) (fun _ => none) t.1
theorem f_cal_nt {i : Nat} {x : Option ((Int32 ⊕ Fin 4) × f_M)} (h : f_Cal MT xs L N i vs σ (x.bind fun t => some (e_xi t))) : f_Cal MT xs L N i vs σ ((f_nt x).bind fun t => some (e_wi t)) := by
  intro w hw
  refine h w ?_
  cases x with
  | none => exact hw
  | some t =>
    obtain ⟨t1, t2⟩ := t
    cases t1 with
    | inl v => exact hw
    | inr k => cases hw
theorem x_hdlb {l : List (Nat × Int32)} {k : Fin 4} {s : f_M} {w : f_W} (H1 : ∀ k : Fin 4, ∀ v, f_hc l k = some v → v = 0 ∨ v = 1) (H : ∀ k : Fin 4, f_hc l k = none ∨ (((m_hh q).zip (m_xk q)).find? fun z => z.2 == k.val).bind (fun z => a_hv q z.1.2.2.1) = f_hc l k)
    (h : (((f_hc l k).bind fun v => some (v == 1, s)).bind fun t => some (e_wb t)) = some w) : a_hx q k.val (f_hp N s) = some (w.1, f_hp N w.2) := by
  refine x_hdl H1 H ?_
  rw [← h]
  cases hv : f_hc l k with
  | none => rfl
  | some v =>
    show some (e_wi (v, s)) = some (e_wb (v == 1, s))
    have : f_b (v == 1) = v := by
      rcases H1 k v hv with e | e <;> subst e <;> rfl
    unfold e_wi e_wb
    rw [this]
/-- a new row of five -/
theorem f_hp_succ {r9 : Nat → Int32} : f_hp N σ ++ [f_cell (f_shape N) r9] = f_hp (N + 1) (f_row σ N r9) := by
  apply List.ext_getElem?
  intro j
  by_cases hj : j < N
  · rw [List.getElem?_append_left (by rw [f_hp_len]; exact hj), f_hp_get hj, f_hp_get (by omega)]
    simp [f_row, Nat.ne_of_lt hj]
  · by_cases hj2 : j = N
    · subst hj2
      rw [List.getElem?_append_right (by rw [f_hp_len]; exact Nat.le_refl _), f_hp_len, Nat.sub_self, f_hp_get (by omega)]
      simp [f_row]
    · rw [List.getElem?_eq_none (by rw [List.length_append, f_hp_len]; simp; omega), List.getElem?_eq_none (by rw [f_hp_len]; omega)]
theorem i_new5 {t : ArrayType} (hat : a_at (m_is q) pc = some (.newarray t, len, a, b)) (ht : newarray.typeOf t = .int) (hN : N < a_big) (hs : f_shape N = .inl (.int, 5, 0)) (hc : 1 ≤ c ∧ 5 ≤ n) (hp : pc + 2 = pc') (K : f_Sim MT xs L (N + 1) N2 q pc' ls (.ref N :: st) (f_row σ N fun _ => 0) (c - 1) (n - 5) o) : f_Sim MT xs L N N2 q pc ls (.int 5 :: st) σ c n o := by
  subst hp
  intro w hw
  obtain ⟨F, d, f, e⟩ := K w hw
  refine ⟨F, d, f + 1, ?_⟩
  unfold a_ex
  have h1 : a_1 MT xs L q pc ls (.int 5 :: st) (f_hp N σ) c n = some (.inl (pc + 2, ls, .ref N :: st, f_hp (N + 1) (f_row σ N fun _ => 0), c - 1, n - 5)) := by
    rw [← f_hp_succ, hs]
    unfold a_1
    rw [hat]
    simp only [a_ins, ht, a_df, f_hp_len]
    rw [if_pos ⟨hc.1, show (5 : Int32).toNatClampNeg ≤ n from hc.2, hN, by decide, by decide⟩]
    rfl
  rw [h1]
  exact e
end A26d
