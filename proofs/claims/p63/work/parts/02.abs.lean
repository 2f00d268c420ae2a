/-! An abstract machine over a heap of numbered cells (addresses 0, 1, 2 ..): one instruction of it is one instruction of the machine. -/
/-- an abstract cell: an array (its elements' type, its contents) or an object (its class's place in vwCl, its fields); a reference in it is a number of a cell -/
abbrev a_C : Type := (FieldType × vp_A) ⊕ (Nat × List Value)
abbrev a_H : Type := List a_C
/-- numbers from here on stand for what is no cell of the heap: the script, then the string constants -/
def a_big : Nat := 1000000
def a_v (ad : Nat → Nat) (v : Value) : Value := match v with
  | .ref i => .ref (ad i)
  | w => w
def a_k (ad : Nat → Nat) (x : (Nat → Int32) ⊕ (Nat → Int64) ⊕ (Nat → UInt32) ⊕ (Nat → UInt64) ⊕ (Nat → Option Nat)) : (Nat → Int32) ⊕ (Nat → Int64) ⊕ (Nat → UInt32) ⊕ (Nat → UInt64) ⊕ (Nat → Option Nat) := match x with
  | .inr (.inr (.inr (.inr f))) => .inr (.inr (.inr (.inr (fun i => (f i).map ad))))
  | y => y
def a_e (ad : Nat → Nat) (cA : ClassId) (c : a_C) : va_E := match c with
  | .inl x => .inl (cA, x.2.1, a_k ad x.2.2)
  | .inr o => .inr (o.1, o.2.map (a_v ad))
def a_ws (ad : Nat → Nat) (ca : Nat → ClassId) (h : a_H) : va_W := h.mapIdx (fun i c => (ad i, a_e ad (ca i) c))
theorem a_ws_len (ad : Nat → Nat) (ca : Nat → ClassId) (h : a_H) : (a_ws ad ca h).length = h.length := by simp [a_ws]
theorem a_ws_get {ad : Nat → Nat} {ca : Nat → ClassId} {h : a_H} {i : Nat} {c : a_C} (e : h[i]? = some c) : (a_ws ad ca h)[i]? = some (ad i, a_e ad (ca i) c) := by simp [a_ws, e]
theorem a_ws_inv {ad : Nat → Nat} {ca : Nat → ClassId} {h : a_H} {i : Nat} {q : Nat × va_E} (e : (a_ws ad ca h)[i]? = some q) : ∃ c, h[i]? = some c ∧ q = (ad i, a_e ad (ca i) c) := by
  simp only [a_ws, List.getElem?_mapIdx, Option.map_eq_some_iff] at e
  obtain ⟨c, h1, h2⟩ := e
  exact ⟨c, h1, h2.symm⟩
theorem a_ws_set (ad : Nat → Nat) (ca : Nat → ClassId) (h : a_H) (i : Nat) (c : a_C) : (a_ws ad ca h).set i (ad i, a_e ad (ca i) c) = a_ws ad ca (h.set i c) := by
  apply List.ext_getElem?
  intro j
  simp only [a_ws, List.getElem?_set, List.getElem?_mapIdx, List.length_mapIdx]
  by_cases hij : i = j
  · subst hij
    by_cases hl : i < h.length
    · simp [hl]
    · simp [hl]
  · simp [hij]
/-- a number that names something: a cell, or what is no cell -/
def a_okr (n i : Nat) : Prop := i < n ∨ a_big ≤ i
def a_okv (n : Nat) (v : Value) : Prop := ∀ i, v = .ref i → a_okr n i
def a_okc (n : Nat) (c : a_C) : Prop := match c with
  | .inl x => ∀ f, x.2.2 = .inr (.inr (.inr (.inr f))) → ∀ i j, f i = some j → a_okr n j
  | .inr o => ∀ v ∈ o.2, a_okv n v
def a_okh (h : a_H) : Prop := ∀ (i : Nat) (c : a_C), h[i]? = some c → a_okc h.length c
theorem a_okv_mono {n m : Nat} (hnm : n ≤ m) {v : Value} (h : a_okv n v) : a_okv m v := fun i e => (h i e).imp (fun q => Nat.lt_of_lt_of_le q hnm) id
theorem a_okc_mono {n m : Nat} (hnm : n ≤ m) {c : a_C} (h : a_okc n c) : a_okc m c := by
  cases c with
  | inl x => exact fun f e i j q => (h f e i j q).imp (fun q => Nat.lt_of_lt_of_le q hnm) id
  | inr o => exact fun v hv => a_okv_mono hnm (h v hv)
/-- two maps of the numbers that agree on all that name something -/
def a_agr (n : Nat) (ad ad' : Nat → Nat) : Prop := ∀ i, a_okr n i → ad' i = ad i
theorem a_v_agr {n : Nat} {ad ad' : Nat → Nat} (ha : a_agr n ad ad') {v : Value} (h : a_okv n v) : a_v ad' v = a_v ad v := by
  cases v with
  | ref i => show Value.ref (ad' i) = Value.ref (ad i); rw [ha i (h i rfl)]
  | _ => rfl
theorem a_vs_agr {n : Nat} {ad ad' : Nat → Nat} (ha : a_agr n ad ad') {l : List Value} (h : ∀ v ∈ l, a_okv n v) : l.map (a_v ad') = l.map (a_v ad) :=
  List.map_congr_left fun v hv => a_v_agr ha (h v hv)
theorem a_k_agr {n : Nat} {ad ad' : Nat → Nat} (ha : a_agr n ad ad') {x : (Nat → Int32) ⊕ (Nat → Int64) ⊕ (Nat → UInt32) ⊕ (Nat → UInt64) ⊕ (Nat → Option Nat)} (h : ∀ f, x = .inr (.inr (.inr (.inr f))) → ∀ i j, f i = some j → a_okr n j) : a_k ad' x = a_k ad x := by
  rcases x with f | f | f | f | f
  · rfl
  · rfl
  · rfl
  · rfl
  · show Sum.inr (Sum.inr (Sum.inr (Sum.inr (fun i => (f i).map ad')))) = Sum.inr (Sum.inr (Sum.inr (Sum.inr (fun i => (f i).map ad))))
    have e : (fun i => (f i).map ad') = (fun i => (f i).map ad) := by
      funext i
      cases hf : f i with
      | none => rfl
      | some j => show some (ad' j) = some (ad j); rw [ha j (h f rfl i j hf)]
    rw [e]
theorem a_e_agr {n : Nat} {ad ad' : Nat → Nat} (ha : a_agr n ad ad') {c : a_C} (h : a_okc n c) (cA : ClassId) : a_e ad' cA c = a_e ad cA c := by
  cases c with
  | inl x => show Sum.inl (cA, x.2.1, a_k ad' x.2.2) = Sum.inl (cA, x.2.1, a_k ad x.2.2); rw [a_k_agr ha h]
  | inr o => show Sum.inr (o.1, o.2.map (a_v ad')) = Sum.inr (o.1, o.2.map (a_v ad)); rw [a_vs_agr ha h]
theorem a_agr_refl (n : Nat) (ad : Nat → Nat) : a_agr n ad ad := fun _ _ => rfl
theorem a_agr_up {n : Nat} (ad : Nat → Nat) (q : Nat) (hn : n < a_big) : a_agr n ad (va_up ad n q) := fun i h => by
  have : i ≠ n := by rcases h with h | h <;> omega
  simp [va_up, this]
/-- a new cell at the end -/
theorem a_ws_push {ad : Nat → Nat} {ca : Nat → ClassId} {h : a_H} {c : a_C} {q : Nat} {cA : ClassId} (hh : a_okh h) (hn : h.length < a_big) (hc : a_okc h.length c) :
    a_ws (va_up ad h.length q) (va_up ca h.length cA) (h ++ [c]) = a_ws ad ca h ++ [(q, a_e ad cA c)] := by
  have hag := a_agr_up ad q hn
  apply List.ext_getElem?
  intro j
  by_cases hj : j < h.length
  · rw [List.getElem?_append_left (by rw [a_ws_len]; exact hj)]
    obtain ⟨d, hd⟩ : ∃ d, h[j]? = some d := ⟨_, List.getElem?_eq_getElem hj⟩
    rw [a_ws_get (h := h ++ [c]) (c := d) (by rw [List.getElem?_append_left hj]; exact hd), a_ws_get hd, a_e_agr hag (hh j d hd)]
    have : j ≠ h.length := Nat.ne_of_lt hj
    simp [va_up, this]
  · by_cases hj2 : j = h.length
    · subst hj2
      rw [a_ws_get (h := h ++ [c]) (c := c) (by simp), List.getElem?_append_right (by rw [a_ws_len]; exact Nat.le_refl _), a_ws_len, Nat.sub_self, a_e_agr hag hc]
      simp [va_up]
    · have h1 : (a_ws (va_up ad h.length q) (va_up ca h.length cA) (h ++ [c]))[j]? = none := List.getElem?_eq_none (by rw [a_ws_len]; simp; omega)
      have h2 : (a_ws ad ca h ++ [(q, a_e ad cA c)])[j]? = none := List.getElem?_eq_none (by simp [a_ws_len]; omega)
      rw [h1, h2]
/-- the world of an abstract heap -/
def a_Wd (D : va_G) (ad : Nat → Nat) (ca : Nat → ClassId) (h : a_H) (A : Nat → Prop) (s : State) (H : Heap) : Prop :=
  va_P D vwCl (a_ws ad ca h) H ∧ va_D A (a_ws ad ca h) ∧ va_K D vwCl [] s ∧ ∀ (i : Nat) (x : FieldType × vp_A), h[i]? = some (.inl x) → ArrOfT s (ca i) x.1 ∧ va_RA s (ca i) x.1
theorem a_Wd.K {D : va_G} {ad : Nat → Nat} {ca : Nat → ClassId} {h : a_H} {A : Nat → Prop} {s : State} {H : Heap} (w : a_Wd D ad ca h A s H) {i : Nat} {x : FieldType × vp_A} (hi : h[i]? = some (.inl x)) : va_K D vwCl [(ca i, x.1)] s :=
  ⟨w.2.2.1.1, fun k q hk => by
    cases k with
    | zero => cases hk; exact w.2.2.2 i x hi
    | succ k => simp at hk⟩
theorem a_Wd.K2 {D : va_G} {ad : Nat → Nat} {ca : Nat → ClassId} {h : a_H} {A : Nat → Prop} {s : State} {H : Heap} (w : a_Wd D ad ca h A s H) {i j : Nat} {x y : FieldType × vp_A} (hi : h[i]? = some (.inl x)) (hj : h[j]? = some (.inl y)) : va_K D vwCl [(ca i, x.1), (ca j, y.1)] s :=
  ⟨w.2.2.1.1, fun k q hk => by
    cases k with
    | zero => cases hk; exact w.2.2.2 i x hi
    | succ k =>
      cases k with
      | zero => cases hk; exact w.2.2.2 j y hj
      | succ k => simp at hk⟩
theorem a_Wd.set {D : va_G} {ad : Nat → Nat} {ca : Nat → ClassId} {h : a_H} {A : Nat → Prop} {s : State} {H H1 : Heap} (w : a_Wd D ad ca h A s H) {i : Nat} {c : a_C} (hP : va_P D vwCl ((a_ws ad ca h).set i (ad i, a_e ad (ca i) c)) H1) (hD : va_D A ((a_ws ad ca h).set i (ad i, a_e ad (ca i) c)))
    (hty : ∀ x, c = .inl x → ∃ y, h[i]? = some (.inl y) ∧ y.1 = x.1) : a_Wd D ad ca (h.set i c) A s H1 := by
  rw [a_ws_set] at hP hD
  refine ⟨hP, hD, w.2.2.1, fun j x hj => ?_⟩
  rw [List.getElem?_set] at hj
  by_cases hij : i = j
  · subst hij
    rw [if_pos rfl] at hj
    by_cases hl : i < h.length
    · rw [if_pos hl] at hj
      cases hj
      obtain ⟨y, h1, h2⟩ := hty x rfl
      rw [← h2]
      exact w.2.2.2 i y h1
    · rw [if_neg hl] at hj; cases hj
  · rw [if_neg hij] at hj
    exact w.2.2.2 j x hj
theorem a_Wd.moved {D : va_G} {ad : Nat → Nat} {ca : Nat → ClassId} {h : a_H} {A : Nat → Prop} {u U : State} {H : Heap} (hvm : u.vm.Alike U.vm) (w : a_Wd D ad ca h A u H) : a_Wd D ad ca h A U H :=
  ⟨w.1, w.2.1, w.2.2.1.moved hvm, fun i x hi => ⟨arrOfT_moved hvm (w.2.2.2 i x hi).1, (w.2.2.2 i x hi).2.moved hvm⟩⟩
theorem a_okh_set {h : a_H} (hh : a_okh h) (i : Nat) {c : a_C} (hc : a_okc h.length c) : a_okh (h.set i c) := by
  intro j d hj
  rw [List.length_set]
  rw [List.getElem?_set] at hj
  by_cases hij : i = j
  · subst hij
    rw [if_pos rfl] at hj
    by_cases hl : i < h.length
    · rw [if_pos hl] at hj; cases hj; exact hc
    · rw [if_neg hl] at hj; cases hj
  · rw [if_neg hij] at hj; exact hh j d hj
theorem a_okh_push {h : a_H} (hh : a_okh h) {c : a_C} (hc : a_okc h.length c) : a_okh (h ++ [c]) := by
  intro j d hj
  rw [List.length_append]
  by_cases hl : j < h.length
  · rw [List.getElem?_append_left hl] at hj
    exact a_okc_mono (Nat.le_add_right _ _) (hh j d hj)
  · rw [List.getElem?_append_right (Nat.not_lt.mp hl)] at hj
    have : j - h.length < 1 := (List.getElem?_eq_some_iff.mp hj).1
    rw [show j - h.length = 0 by omega] at hj
    cases hj
    exact a_okc_mono (Nat.le_add_right _ _) hc
