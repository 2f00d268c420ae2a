/-! The words that the library's law of toString wants. -/
theorem w_decl {x : MethodName} {b : ByteArray} {m : Nat} {r : Option FieldType} {args : Array Value} {s : State} (h1 : (Cond.instanceMethod x).before args s = true) (h2 : (Cond.code x b m r).before args s = true) : (Cond.declares x).before args s = true := by
  obtain ⟨m9, meth, e1, e2, e3, -⟩ := Cond.instanceMethod_spec h1
  obtain ⟨meth2, c2, f1, -, -, -, -, -, -, f7⟩ := Cond.code_spec e1 h2
  cases Option.some.inj (e2.symm.trans f1)
  unfold Cond.before Cond.holds
  simp only [Cond.value, e1, Option.bind_some, e2, Option.map_some, e3, f7, Bool.not_false, decide_true, Bool.and_self, beq_self_eq_true]
theorem w_cast {C : String} {n : Nat} {args : Array Value} {s : State} (h : (Cond.instantiable C n).before args s = true) : (Cond.castable C C).before args s = true := by
  obtain ⟨c, k, hc, -⟩ := Cond.instantiable_spec h
  unfold Cond.before Cond.holds
  simp only [Cond.value, hc]
  have : s.vm.assignable c c = true := by
    unfold Vm.assignable
    rw [Vm.assignableAux.eq_2]
    simp
  rw [this]
  rfl
theorem w_of_flat {args : Array Value} {s : State} : ∀ (T : Cond), (∀ c ∈ flatC T, c.before args s = true) → T.before args s = true := by
  intro T
  fun_induction flatC T with
  | case1 a b iha ihb =>
    intro h
    have ha := iha (fun c hc => h c (List.mem_append_left _ hc))
    have hb := ihb (fun c hc => h c (List.mem_append_right _ hc))
    unfold Cond.before Cond.holds at ha hb ⊢
    simp only [Cond.value]
    simp_all
  | case2 w hw =>
    intro h
    exact h _ List.mem_cons_self
