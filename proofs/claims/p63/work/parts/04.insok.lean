/-! One instruction of the abstract machine is one of the machine. -/
def lw_good : List Cond := lw_tbl.filter goodWord
def a_T (ci : Nat) : u_T := match ci with
  | 0 => TX0
  | 1 => TX1
  | 2 => TX2
  | 3 => TX3
  | 4 => TX4
  | 5 => TX5
  | 6 => TX6
  | 7 => TX7
  | 8 => TX8
  | 9 => TL
  | _ => TJ4
theorem a_cl {ci : Nat} (h : ci < 11) : vwCl[ci]? = some (a_cn ci, a_T ci, a_nf ci) := by
  match ci, h with
  | 0, _ => rfl
  | 1, _ => rfl
  | 2, _ => rfl
  | 3, _ => rfl
  | 4, _ => rfl
  | 5, _ => rfl
  | 6, _ => rfl
  | 7, _ => rfl
  | 8, _ => rfl
  | 9, _ => rfl
  | 10, _ => rfl
theorem a_ty_ok {ci : Nat} (h : ci < 11) : ∀ k, k < a_nf ci → parseFieldDescriptor (a_T ci k).2.2.1 = some (a_ty ci k) := by
  match ci, h with
  | 0, _ => exact tyX0_ok
  | 1, _ => exact tyX1_ok
  | 2, _ => exact tyX2_ok
  | 3, _ => exact tyX3_ok
  | 4, _ => exact tyX4_ok
  | 5, _ => exact tyX5_ok
  | 6, _ => exact tyX6_ok
  | 7, _ => exact tyX7_ok
  | 8, _ => exact tyX8_ok
  | 9, _ => exact tyL_ok
  | 10, _ => exact tyJ4_ok
theorem a_nm_ok {ci : Nat} (h : ci < 11) : ∀ a, a < a_nf ci → ∀ b, b < a_nf ci → a ≠ b → (a_T ci a).2.1 ≠ (a_T ci b).2.1 := by
  match ci, h with
  | 0, _ => exact nmX0
  | 1, _ => exact nmX1
  | 2, _ => exact nmX2
  | 3, _ => exact nmX3
  | 4, _ => exact nmX4
  | 5, _ => exact nmX5
  | 6, _ => exact nmX6
  | 7, _ => exact nmX7
  | 8, _ => exact nmX8
  | 9, _ => exact nmL
  | 10, _ => exact nmJ4
theorem a_cat (ad : Nat → Nat) (v : Value) : (a_v ad v).category = v.category := by cases v <;> rfl
theorem a_nar (ad : Nat → Nat) (ty : FieldType) (v : Value) (h : narrow ty v = v) : narrow ty (a_v ad v) = a_v ad v := by
  cases v with
  | ref i => cases ty <;> rfl
  | _ => exact h
theorem a_fit (ad : Nat → Nat) (ty : FieldType) (v : Value) : fits ty (a_v ad v) = fits ty v := by
  cases v with
  | ref i => cases ty <;> rfl
  | _ => rfl
def a_oks (n : Nat) (l : List Value) : Prop := ∀ v ∈ l, a_okv n v
theorem a_oks_cons {n : Nat} {v : Value} {l : List Value} : a_oks n (v :: l) ↔ a_okv n v ∧ a_oks n l := by simp [a_oks]
theorem a_okv_int (n : Nat) (x : Int32) : a_okv n (.int x) := fun i e => by cases e
theorem a_okv_long (n : Nat) (x : Int64) : a_okv n (.long x) := fun i e => by cases e
theorem a_okv_fl (n : Nat) (x : UInt32) : a_okv n (.float x) := fun i e => by cases e
theorem a_okv_db (n : Nat) (x : UInt64) : a_okv n (.double x) := fun i e => by cases e
theorem a_okv_dead (n : Nat) : a_okv n a_dead := fun i e => by cases e
theorem a_okv_null (n : Nat) : a_okv n .null := fun i e => by cases e
theorem a_oks_at {n : Nat} {l : List Value} (h : a_oks n l) {k : Nat} {v : Value} (e : l[k]? = some v) : a_okv n v := h v (List.mem_of_getElem? e)
theorem a_oks_set {n : Nat} {l : List Value} (h : a_oks n l) (k : Nat) {v : Value} (hv : a_okv n v) : a_oks n (l.set k v) := fun w hw => by
  rcases List.mem_or_eq_of_mem_set hw with q | q
  · exact h w q
  · rw [q]; exact hv
theorem a_oks_sto {n : Nat} {l : List Value} (h : a_oks n l) (k : Nat) {v : Value} (hv : a_okv n v) : a_oks n (a_sto l k v) := by
  unfold a_sto
  have h1 : a_oks n (if k = 0 then l else match l[k - 1]? with
    | some w => if w.category = 2 then l.set (k - 1) a_dead else l
    | none => l) := by
    split
    · exact h
    · split
      · split
        · exact a_oks_set h _ (a_okv_dead n)
        · exact h
      · exact h
  dsimp only
  split
  · exact a_oks_set (a_oks_set h1 _ hv) _ (a_okv_dead n)
  · exact a_oks_set h1 _ hv
theorem a_oks_mono {n m : Nat} (hnm : n ≤ m) {l : List Value} (h : a_oks n l) : a_oks m l := fun v hv => a_okv_mono hnm (h v hv)
theorem a_sto_len (l : List Value) (k : Nat) (v : Value) : (a_sto l k v).length = l.length := by
  unfold a_sto
  dsimp only
  split <;> simp only [List.length_set] <;> split <;> first | rfl | (split <;> first | rfl | (split <;> simp))
/-- the locals -/
def a_live (v : Value) : Prop := ∀ k, v ≠ .retAddr k
def a_L (ad : Nat → Nat) (nL : Nat) (ls : List Value) (ls' : Array Slot) : Prop := ls'.size = nL ∧ lv_wf ls' ∧ ls.length = nL ∧ ∀ (i : Nat) (v : Value), ls[i]? = some v → a_live v → ls'[i]? = some (.val (a_v ad v))
def a_as (ad : Nat → Nat) (ls : List Value) : List (Nat × Value) := (ls.mapIdx fun i v => (i, v)).filterMap fun q => match q.2 with
  | .retAddr _ => none
  | v => some (q.1, a_v ad v)
theorem a_as_mem {ad : Nat → Nat} {ls : List Value} {i : Nat} {v : Value} (e : ls[i]? = some v) (h : a_live v) : (i, a_v ad v) ∈ a_as ad ls := by
  refine List.mem_filterMap.mpr ⟨(i, v), List.mem_of_getElem? (i := i) (by simp [e]), ?_⟩
  cases v <;> first | rfl | exact absurd rfl (h _)
theorem a_as_inv {ad : Nat → Nat} {ls : List Value} {q : Nat × Value} (h : q ∈ a_as ad ls) : ∃ v, ls[q.1]? = some v ∧ a_live v ∧ q.2 = a_v ad v := by
  obtain ⟨r, hr, he⟩ := List.mem_filterMap.mp h
  obtain ⟨i, hi⟩ := List.getElem?_of_mem hr
  simp only [List.getElem?_mapIdx, Option.map_eq_some_iff] at hi
  obtain ⟨v, h1, h2⟩ := hi
  subst h2
  cases v <;> simp at he <;> subst he <;> exact ⟨_, h1, (fun k e => by cases e), rfl⟩
theorem a_L.has {ad : Nat → Nat} {nL : Nat} {ls : List Value} {ls' : Array Slot} (h : a_L ad nL ls ls') : lv_has ls' nL (a_as ad ls) :=
  ⟨h.1, h.2.1, fun q hq => by
    obtain ⟨v, h1, h2, h3⟩ := a_as_inv hq
    rw [h3]
    exact h.2.2.2 q.1 v h1 h2⟩
theorem a_L.sto1 {ad : Nat → Nat} {nL : Nat} {ls : List Value} {ls' ls2 : Array Slot} {i : Nat} {v : Value} (h : a_L ad nL ls ls') (hi : i < ls.length) (hc : v.category = 1)
    (h2 : lv_has ls2 nL ((i, a_v ad v) :: (a_as ad ls).filter (fun q => !(q.1 == i) && !(q.1 + 1 == i && q.2.category == 2)))) : a_L ad nL (a_sto ls i v) ls2 := by
  refine ⟨h2.1, h2.2.1, by rw [a_sto_len]; exact h.2.2.1, fun j w hj hw => ?_⟩
  have hc2 : ¬ v.category = 2 := by omega
  simp only [a_sto, if_neg hc2] at hj
  by_cases hji : j = i
  · subst hji
    rw [List.getElem?_set_self' ] at hj
    have : w = v := by
      revert hj
      cases hq : (if j = 0 then ls else match ls[j - 1]? with
        | some w => if w.category = 2 then ls.set (j - 1) a_dead else ls
        | none => ls)[j]? with
      | none => intro z; simp at z
      | some z => intro z2; simp at z2; exact z2.symm
    subst this
    exact h2.2.2 (j, a_v ad w) List.mem_cons_self
  · rw [List.getElem?_set_ne (fun e => hji e.symm)] at hj
    have key : ls[j]? = some w ∧ ¬ (j + 1 = i ∧ w.category = 2) := by
      split at hj
      · exact ⟨hj, fun q => by omega⟩
      · rename_i h0
        split at hj
        · rename_i w0 hw0
          split at hj
          · by_cases e : j = i - 1
            · subst e
              rw [List.getElem?_set_self (List.getElem?_eq_some_iff.mp hw0).1] at hj
              cases hj
              exact absurd rfl (hw 0)
            · rw [List.getElem?_set_ne (fun q => e q.symm)] at hj
              exact ⟨hj, fun q => by omega⟩
          · rename_i hn
            refine ⟨hj, fun q => ?_⟩
            have : j = i - 1 := by omega
            subst this
            rw [hw0] at hj
            cases hj
            exact hn q.2
        · rename_i hw0
          refine ⟨hj, fun q => ?_⟩
          have : j = i - 1 := by omega
          subst this
          rw [hw0] at hj
          cases hj
    have hm : (j, a_v ad w) ∈ (a_as ad ls).filter (fun q => !(q.1 == i) && !(q.1 + 1 == i && q.2.category == 2)) := by
      refine List.mem_filter.mpr ⟨a_as_mem key.1 hw, ?_⟩
      have hx := key.2
      rw [← a_cat ad w] at hx
      simp only [Bool.and_eq_true, Bool.not_eq_true', beq_eq_false_iff_ne, ne_eq, Bool.and_eq_false_iff]
      refine ⟨hji, ?_⟩
      by_cases e : j + 1 = i
      · exact Or.inr (fun q => hx ⟨e, q⟩)
      · exact Or.inl e
    exact h2.2.2 (j, a_v ad w) (List.mem_cons_of_mem _ hm)
theorem a_L.sto2 {ad : Nat → Nat} {nL : Nat} {ls : List Value} {ls' ls2 : Array Slot} {i : Nat} {v : Value} (h : a_L ad nL ls ls') (hi : i + 1 < ls.length) (hc : v.category = 2)
    (h2 : lv_has ls2 nL ((i, a_v ad v) :: (a_as ad ls).filter (fun q => !(q.1 == i) && (!(q.1 == i + 1) && !(q.1 + 1 == i && q.2.category == 2))))) : a_L ad nL (a_sto ls i v) ls2 := by
  refine ⟨h2.1, h2.2.1, by rw [a_sto_len]; exact h.2.2.1, fun j w hj hw => ?_⟩
  simp only [a_sto, if_pos hc] at hj
  by_cases hj1 : j = i + 1
  · subst hj1
    rw [List.getElem?_set_self'] at hj
    exfalso
    revert hj
    generalize (List.set _ i v)[i + 1]? = z
    cases z with
    | none => intro z; simp at z
    | some z => intro z2; simp at z2; exact hw 0 z2.symm
  · rw [List.getElem?_set_ne (fun e => hj1 e.symm)] at hj
    by_cases hji : j = i
    · subst hji
      rw [List.getElem?_set_self'] at hj
      have : w = v := by
        revert hj
        generalize (if j = 0 then ls else match ls[j - 1]? with
          | some w => if w.category = 2 then ls.set (j - 1) a_dead else ls
          | none => ls)[j]? = z
        cases z with
        | none => intro z; simp at z
        | some z => intro z2; simp at z2; exact z2.symm
      subst this
      exact h2.2.2 (j, a_v ad w) List.mem_cons_self
    · rw [List.getElem?_set_ne (fun e => hji e.symm)] at hj
      have key : ls[j]? = some w ∧ ¬ (j + 1 = i ∧ w.category = 2) := by
        split at hj
        · exact ⟨hj, fun q => by omega⟩
        · rename_i h0
          split at hj
          · rename_i w0 hw0
            split at hj
            · by_cases e : j = i - 1
              · subst e
                rw [List.getElem?_set_self (List.getElem?_eq_some_iff.mp hw0).1] at hj
                cases hj
                exact absurd rfl (hw 0)
              · rw [List.getElem?_set_ne (fun q => e q.symm)] at hj
                exact ⟨hj, fun q => by omega⟩
            · rename_i hn
              refine ⟨hj, fun q => ?_⟩
              have : j = i - 1 := by omega
              subst this
              rw [hw0] at hj
              cases hj
              exact hn q.2
          · rename_i hw0
            refine ⟨hj, fun q => ?_⟩
            have : j = i - 1 := by omega
            subst this
            rw [hw0] at hj
            cases hj
      have hm : (j, a_v ad w) ∈ (a_as ad ls).filter (fun q => !(q.1 == i) && (!(q.1 == i + 1) && !(q.1 + 1 == i && q.2.category == 2))) := by
        refine List.mem_filter.mpr ⟨a_as_mem key.1 hw, ?_⟩
        have hx := key.2
        rw [← a_cat ad w] at hx
        simp only [Bool.and_eq_true, Bool.not_eq_true', beq_eq_false_iff_ne, ne_eq, Bool.and_eq_false_iff]
        refine ⟨hji, hj1, ?_⟩
        by_cases e : j + 1 = i
        · exact Or.inr (fun q => hx ⟨e, q⟩)
        · exact Or.inl e
      exact h2.2.2 (j, a_v ad w) (List.mem_cons_of_mem _ hm)
theorem a_L.agr {n : Nat} {ad ad' : Nat → Nat} (ha : a_agr n ad ad') {nL : Nat} {ls : List Value} {ls' : Array Slot} (ho : a_oks n ls) (h : a_L ad nL ls ls') : a_L ad' nL ls ls' :=
  ⟨h.1, h.2.1, h.2.2.1, fun i v hi hv => by rw [a_v_agr ha (a_oks_at ho hi)]; exact h.2.2.2 i v hi hv⟩
