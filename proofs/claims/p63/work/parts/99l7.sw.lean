/-! Behind toString: the StringBuilder is forgotten, the text becomes the eighth constant. -/
def w_shc (b : Nat) (sh : f_Sh) : Bool := match sh with
  | .inl _ => true
  | .inr x => x.2.zipIdx.all fun z => z.1 == 0 || (z.1 == 1 && b == 3 && z.2 == 0) || (decide (2 ≤ z.1) && decide (z.1 - 2 < 181))
theorem w_shc_ok : ∀ b, b < 181 → w_shc b (f_shape b) = true := by decide +kernel
def w_rf (c : a_C) : Prop := match c with
  | .inl x => ∀ f, x.2.2 = .inr (.inr (.inr (.inr f))) → ∀ i j, f i = some j → j < 181
  | .inr o => ∀ v ∈ o.2, ∀ i, v = .ref i → i < 181
theorem w_rfs {σ : f_M} (h3 : (σ 3 0).toNatClampNeg < 181) : ∀ (i : Nat) (c : a_C), (f_hp 181 σ)[i]? = some c → w_rf c := by
  intro i c hi
  have hl : i < 181 := by
    have := (List.getElem?_eq_some_iff.mp hi).1
    rwa [f_hp_len] at this
  rw [f_hp_get hl] at hi
  cases hi
  have hc := w_shc_ok i hl
  cases hs : f_shape i with
  | inl x =>
    obtain ⟨ty, n, kd⟩ := x
    intro f e a b hab
    have e : f_el kd (σ i) = .inr (.inr (.inr (.inr f))) := e
    unfold f_el at e
    split at e
    · cases e
    · cases e
    · cases e
      dsimp only at hab
      split at hab
      · cases hab; omega
      · cases hab
    · cases e
      dsimp only at hab
      split at hab
      · cases hab; omega
      · cases hab
    · cases e
      dsimp only at hab
      split at hab
      · cases hab; omega
      · cases hab
  | inr x =>
    rw [hs] at hc
    intro v hv k9 e
    obtain ⟨k, hk, rfl⟩ := List.mem_mapIdx.mp hv
    have h1 := List.all_eq_true.mp hc (x.2[k], k) (List.mem_of_getElem? (i := k) (by simp [hk]))
    simp only [Bool.or_eq_true, Bool.and_eq_true, beq_iff_eq, decide_eq_true_eq] at h1
    rcases h1 with (h1 | ⟨⟨h1, h2⟩, h4⟩) | ⟨h1, h2⟩
    · rw [h1] at e; cases e
    · rw [h1, h2, h4] at e
      have e : Value.ref (σ 3 0).toNatClampNeg = .ref k9 := e
      cases e
      exact h3
    · obtain ⟨t, ht⟩ : ∃ t, x.2[k] = t + 2 := ⟨x.2[k] - 2, by omega⟩
      rw [ht] at e h2
      have e : Value.ref t = .ref k9 := e
      have h5 : t < 181 := by omega
      cases e
      exact h5
theorem w_okh {σ : f_M} (h3 : (σ 3 0).toNatClampNeg < 181) : a_okh (f_hp 181 σ) := by
  intro i c hi
  have h := w_rfs h3 i c hi
  rw [f_hp_len]
  cases c with
  | inl x => exact fun f e a b hab => Or.inl (h f e a b hab)
  | inr o => exact fun v hv k e => Or.inl (h v hv k e)
theorem w_e_rf {ad ad' : Nat → Nat} (ha : ∀ i, i < 181 → ad' i = ad i) {c : a_C} (h : w_rf c) (cA : ClassId) : a_e ad' cA c = a_e ad cA c := by
  cases c with
  | inl x =>
    show Sum.inl (cA, x.2.1, a_k ad' x.2.2) = Sum.inl (cA, x.2.1, a_k ad x.2.2)
    have : a_k ad' x.2.2 = a_k ad x.2.2 := by
      obtain ⟨ty, n, y⟩ := x
      rcases y with f | f | f | f | f
      · rfl
      · rfl
      · rfl
      · rfl
      · show Sum.inr (Sum.inr (Sum.inr (Sum.inr (fun i => (f i).map ad')))) = Sum.inr (Sum.inr (Sum.inr (Sum.inr (fun i => (f i).map ad))))
        have e : (fun i => (f i).map ad') = (fun i => (f i).map ad) := by
          funext i
          cases hf : f i with
          | none => rfl
          | some j => show some (ad' j) = some (ad j); rw [ha j (h f rfl i j hf)]
        rw [e]
    rw [this]
  | inr o =>
    show Sum.inr (o.1, o.2.map (a_v ad')) = Sum.inr (o.1, o.2.map (a_v ad))
    have : o.2.map (a_v ad') = o.2.map (a_v ad) := List.map_congr_left fun v hv => by
      cases v with
      | ref i => show Value.ref (ad' i) = Value.ref (ad i); rw [ha i (h _ hv i rfl)]
      | _ => rfl
    rw [this]
/-- the letters put behind the script -/
def w_xs (xs : Nat → Int32) (tx : List Int32) : Nat → Int32 := fun i => if i < 998 then xs i else if i = 998 then 1 else if i = 999 then nI tx.length else tx.getD (i - 1000) 0
theorem w_xs_lo {xs : Nat → Int32} {tx : List Int32} {i : Nat} (h : i < 998) : w_xs xs tx i = xs i := if_pos h
theorem w_xs_tn {xs : Nat → Int32} {tx : List Int32} : a_tn (w_xs xs tx) = 8 := if_pos rfl
theorem w_xs_tl {xs : Nat → Int32} {tx : List Int32} (h : tx.length ≤ 200) : a_tl (w_xs xs tx) = tx.length := by
  unfold a_tl
  rw [show w_xs xs tx 999 = nI tx.length from rfl, n_clamp (by omega)]
  omega
theorem w_xs_tb {xs : Nat → Int32} {tx : List Int32} (h : tx.length ≤ 200) {i : Nat} (hi : i < tx.length) : (a_tb (w_xs xs tx)).getD i 0 = tx.getD i 0 := by
  unfold a_tb
  rw [w_xs_tl h, List.getD_eq_getElem?_getD, List.getElem?_map, List.getElem?_range hi]
  show w_xs xs tx (1000 + i) = _
  unfold w_xs
  rw [if_neg (by omega), if_neg (by omega), if_neg (by omega), show 1000 + i - 1000 = i by omega]
theorem va_X_xs {b L : Nat} {xs xs' : Nat → Int32} {U : State} {H : Heap} (h : va_X b L xs U H) (e : ∀ j, j < L → xs' j = xs j) : va_X b L xs' U H := by
  obtain ⟨scr, h1, h2, h3, h4, h5⟩ := h
  exact ⟨scr, h1, h2, h3, h4, fun j hj => by rw [e j hj]; exact h5 j hj⟩
theorem w_amb8 {xs : Nat → Int32} {L : Nat} {ad ad' : Nat → Nat} {A : Nat → Prop} {s : State} {H : Heap} {tx : List Int32} {sa sd : Nat} (h : a_Amb xs L ad A s H) (hL : L ≤ 998) (ht : a_tn xs = 7) (htx : tx.length ≤ 200) (n1 : va_O "java/lang/String" sa A s H) (n2 : va_OF "java/lang/String" "coder" "B" (.int 0) sa A s H) (n3 : va_OF "java/lang/String" "value" "[B" (.ref sd) sa A s H) (n4 : va_T .byte sd tx.length (fun j => .int (tx.getD j 0)) A s H) (hne : ∀ i, i < 7 → ad (a_big + 1 + i) ≠ sa) (h0 : ∀ i, a_big ≤ i → i ≠ a_big + 8 → i ≠ a_big + 400 → ad' i = ad i) (h8 : ad' (a_big + 8) = sa) : a_Amb (w_xs xs tx) L ad' A s H := by
  obtain ⟨⟨h1, h2, h3, hd⟩, ⟨adV, hV⟩, hr, ht9, hs1, hs2, hs3, hs4, hs5⟩ := h
  have e0 : ad' a_big = ad a_big := h0 _ (Nat.le_refl _) (by omega) (by omega)
  have ei : ∀ i, i < 7 → ad' (a_big + 1 + i) = ad (a_big + 1 + i) := fun i hi => h0 _ (by omega) (by omega) (by omega)
  refine ⟨⟨by rw [e0]; exact va_X_xs h1 (fun j hj => w_xs_lo (by omega)), by rw [e0]; exact h2, by rw [e0]; exact h3, ⟨hd.1, fun w hw => ?_⟩⟩, ⟨fun i => if i < 7 then adV i else sd, ?_⟩, fun q hq => ?_, ht9, hs1, hs2, hs3, hs4, hs5⟩
  · rw [h0 (a_big + 500 + w) (by omega) (by omega) (by omega)]
    exact hd.2 w hw
  · rw [w_xs_tn]
    rw [ht] at hV
    refine ⟨fun i hi => ?_, fun i j hi hj e => ?_⟩
    · by_cases h7 : i < 7
      · have := hV.1 i h7
        dsimp only at this ⊢
        rw [ei i h7, if_pos h7, a_sl_lo _ h7, a_sb_lo _ h7]
        rw [a_sl_lo _ h7, a_sb_lo _ h7] at this
        exact this
      · obtain rfl : i = 7 := by omega
        dsimp only
        rw [show a_big + 1 + 7 = a_big + 8 from rfl, h8, if_neg h7]
        have e1 : (a_sl (w_xs xs tx)).getD 7 0 = tx.length := w_xs_tl htx
        have e2 : (a_sb (w_xs xs tx)).getD 7 [] = a_tb (w_xs xs tx) := rfl
        rw [e1, e2]
        refine ⟨n1, n2, n3, ?_⟩
        obtain ⟨cell, c1, c2, c3, c4, c5, c6, c7⟩ := n4
        exact ⟨cell, c1, c2, c3, c4, c5, fun j hj => by dsimp only; rw [w_xs_tb htx hj]; exact c6 j hj, c7⟩
    · dsimp only at e
      by_cases hi7 : i < 7
      · by_cases hj7 : j < 7
        · rw [ei i hi7, ei j hj7] at e
          exact hV.2 i j hi7 hj7 e
        · obtain rfl : j = 7 := by omega
          rw [ei i hi7, show a_big + 1 + 7 = a_big + 8 from rfl, h8] at e
          exact absurd e (hne i hi7)
      · obtain rfl : i = 7 := by omega
        by_cases hj7 : j < 7
        · rw [ei j hj7, show a_big + 1 + 7 = a_big + 8 from rfl, h8] at e
          exact absurd e.symm (hne j hj7)
        · omega
  · have hlt : ∀ q ∈ a_strs, q.2.2.2 < 7 := by decide
    rw [ei _ (hlt q hq)]
    exact hr q hq
def w_l2 (x : Int32) (i : Nat) : List Value := [.ref a_big, .ref 0, .ref 155, .int x, .ref (a_big + 400), .int (nI i)]
theorem w_sw {p : Program} {l : Launch} {e : Env} {R : Room} {s : State} {m : MethodId} {args : Array Value} {below : List Frame} {meth : Method} {c : Code} {Q : State → Prop} {D : va_G} {A : Nat → Prop} {cc : ByteArray} {xs : Nat → Int32} {L : Nat} {ad0 : Nat → Nat} {ini : Bool} {σ : f_M} {t : a_H} {tx : List Int32} {x : Int32} {ac cb nb : Nat}
    (X : a_cx p s s.heap m args meth c cc RL 6 A xs L ad0 ini) (hts : ∀ w ∈ lw_tbl, w.before args s = true) (hR : 15 ≤ R.frames ∧ 578 ≤ R.locals) (hd : decode cc 226 = .ok (.invokevirtual 271, 3)) (hAs : ∀ q, A q → s.heap.size ≤ q) (ht : a_tn xs = 7) (hL : L ≤ 998) (hS : sbS 181 t tx) (h3 : (σ 3 0).toNatClampNeg < 181) (hcb : 2 ≤ cb) (hnb : 200 ≤ nb)
    (kk : ∀ (H' : Heap) (A' : Nat → Prop) (ad' : Nat → Nat), a_cx p s H' m args meth c cc RL 6 A' (w_xs xs tx) L ad' ini → (∀ q, A' q → s.heap.size ≤ q) → (s.heap.size ≤ H'.size ∧ ∀ q : Nat, q < s.heap.size → H'[q]? = s.heap[q]?) → a_G p l e R s H' m args below meth c Q D A' 6 ad' 0 229 (w_l2 x ac) [.ref (a_big + 8), .ref 0] (f_hp 181 σ) (cb - 2) (nb - 200)) :
    a_G p l e R s s.heap m args below meth c Q D A 6 ad0 0 226 (w_ls x ac) [.ref 181, .ref 0] (f_hp 181 σ ++ t) cb nb := by
  intro ad ca H locs cells slots ls' h1 h2 hl h4 h5 h6 h7 h8 h9 h10
  obtain ⟨j, m9, f, g0, gj, hj, hs, hn, hf, hfit⟩ := hS
  have hm9 : m9 ≤ 102 := by unfold sb_sz at hs; omega
  have hg : (f_hp 181 σ ++ t)[181]? = some (sb_ob 181 j tx.length) := r_at (B := 181) (j := 0) (f_hp_len _ _) g0 rfl
  have hgj : (f_hp 181 σ ++ t)[181 + j]? = some (sb_ar m9 f) := r_at (B := 181) (j := j) (f_hp_len _ _) gj rfl
  have hA : a_Amb xs L ad A s H := a_Amb.to X.2.2.2.2.2.2.1 h8 (State.WarmedH.refl s) (fun _ h => h) (fun i hi => h1 i (Or.inr hi))
  refine w_toS (rest := [.ref (ad 0)]) (n := tx.length) X.1 X.2.1 X.2.2.1 X.2.2.2.1 hts hR hd hA h7 hg hgj hj ⟨hn, hm9⟩ hfit hl.1 (by show 1 ≤ 8; omega) (by omega) (by omega) (fun H' q cS e1 e2 e3 hSl hB hlet hkeep => ?_)
  refine va_forget (fun q hq => hAs _ (h8.2.2 q hq)) ?_
  obtain ⟨⟨k1, k2, k3, ⟨kc, kk1, ki, k4, k4b⟩, ⟨kc2, kk2, ki2, k5, k5b⟩, k6, k7, k8, k9, k10, k11, k12, k13, k14, k15, k16⟩, kS1, kS2⟩ := hSl
  have k1 : H'[q.1]? = some q.2.1 := k1
  have k10 : H'[q.2.2.2.2.1]? = some q.2.2.2.2.2.1 := k10
  rw [e1] at k1
  have z1 := (Array.getElem?_eq_some_iff.mp k1).1
  have z2 := (Array.getElem?_eq_some_iff.mp k10).1
  have hold : ∀ y : Nat, y < H.size → H'[y]? = H[y]? := fun y hy => by
    rw [hkeep y H[y] (Array.getElem?_eq_getElem hy), Array.getElem?_eq_getElem hy]
  have hsH := h8.1
  have amb1 : a_Amb xs L ad (fun y => A y ∧ y ≠ H.size ∧ y ≠ q.2.2.2.2.1) s H' := a_Amb.to (H := H') (locs := []) hA ⟨Nat.le_of_lt z1, fun y hy _ => hold y hy, fun _ h => nomatch h⟩ (State.WarmedH.refl s) (fun y hy => hy.1) (fun _ _ => rfl)
  have hks : ∀ i, i < 7 → ad (a_big + 1 + i) ≠ H.size := fun i hi he => by
    obtain ⟨adV, hV⟩ := hA.2.1
    obtain ⟨cell, c1, -⟩ := (hV.1 i (by rw [ht]; exact hi)).1
    have := (Array.getElem?_eq_some_iff.mp c1).1
    have he : ad (a_big + 1 + i) = H.size := he
    have this : ad (a_big + 1 + i) < H.size := this
    omega
  have hlen : q.2.2.2.2.2.1.slots.size = tx.length := k13.trans e3
  have a0 : ∀ i, i < 181 → (if i = a_big + 8 then H.size else if i = a_big + 400 then ad 181 else ad i) = ad i := fun i hi => by
    have : i < a_big := Nat.lt_trans hi (by decide)
    rw [if_neg (by omega), if_neg (by omega)]
  have amb2 := w_amb8 (xs := xs) (L := L) (tx := tx) (sa := H.size) (sd := q.2.2.2.2.1) (ad' := fun i => if i = a_big + 8 then H.size else if i = a_big + 400 then ad 181 else ad i) amb1 hL ht (by omega)
    ⟨q.2.1, k1, k3, by rw [kS2]; exact kS1, fun z => z.2.1 rfl⟩ ⟨_, _, _, _, q.2.1, k5, k7, k1, k2, k9, fun z => z.2.1 rfl⟩ ⟨_, _, _, _, q.2.1, k4, k6, k1, k2, k8, fun z => z.2.1 rfl⟩
    ⟨_, k10, k11, k12, Nat.le_of_eq hlen.symm, by rw [hlen], fun i hi => by rw [hlet i hi, hf i hi], fun z => z.2.2 rfl⟩ hks (fun i hi h1 h2 => by rw [if_neg h1, if_neg h2]) (if_pos rfl)
  have hWd : a_Wd D (fun i => if i = a_big + 8 then H.size else if i = a_big + 400 then ad 181 else ad i) ca (f_hp 181 σ) (fun y => A y ∧ y ≠ H.size ∧ y ≠ q.2.2.2.2.1) s H' := by
    have hin : ∀ (k : Nat) (w : Nat × va_E), (a_ws (fun i => if i = a_big + 8 then H.size else if i = a_big + 400 then ad 181 else ad i) ca (f_hp 181 σ))[k]? = some w → k < 181 ∧ (a_ws ad ca (f_hp 181 σ ++ t))[k]? = some w := fun k w hk => by
      obtain ⟨c9, q1, q2⟩ := a_ws_inv hk
      have hk9 : k < 181 := by
        have := (List.getElem?_eq_some_iff.mp q1).1
        rwa [f_hp_len] at this
      refine ⟨hk9, ?_⟩
      have q3 : (f_hp 181 σ ++ t)[k]? = some c9 := by rw [List.getElem?_append_left (by rw [f_hp_len]; exact hk9)]; exact q1
      rw [a_ws_get q3, q2]
      rw [a0 k hk9, w_e_rf a0 (w_rfs h3 k c9 q1)]
    have hlt : ∀ (k : Nat) (w : Nat × va_E), (a_ws ad ca (f_hp 181 σ ++ t))[k]? = some w → w.1 < H.size := fun k w hk => vx_lt h7.1 hk
    refine ⟨?_, ⟨fun i j9 p9 q9 hi hj9 e9 => h7.2.1.1 i j9 p9 q9 (hin i _ hi).2 (hin j9 _ hj9).2 e9, fun k w hk => ?_⟩, h7.2.2.1, fun i y hi => ?_⟩
    · exact va_P.kept (H := H) (fun k w hk => h7.1 k w (hin k w hk).2) (fun k w hk => hold _ (hlt k w (hin k w hk).2))
    · have := hlt k w (hin k w hk).2
      exact ⟨h7.2.1.2 k w (hin k w hk).2, by omega, by omega⟩
    · have hi9 : i < 181 := by
        have := (List.getElem?_eq_some_iff.mp hi).1
        rwa [f_hp_len] at this
      exact h7.2.2.2 i y (by rw [List.getElem?_append_left (by rw [f_hp_len]; exact hi9)]; exact hi)
  have hll : a_L (fun i => if i = a_big + 8 then H.size else if i = a_big + 400 then ad 181 else ad i) 6 (w_l2 x ac) ls' := by
    refine ⟨hl.1, hl.2.1, rfl, fun i v hi hv => ?_⟩
    have hw := hl.2.2.2
    have hi6 : i < 6 := (List.getElem?_eq_some_iff.mp hi).1
    have live : ∀ (r : Nat), a_live (.ref r) := fun r k9 e9 => by cases e9
    have livi : ∀ (r : Int32), a_live (.int r) := fun r k9 e9 => by cases e9
    rcases (show i = 0 ∨ i = 1 ∨ i = 2 ∨ i = 3 ∨ i = 4 ∨ i = 5 by omega) with rfl | rfl | rfl | rfl | rfl | rfl
    · cases hi; exact hw 0 (.ref a_big) rfl (live _)
    · cases hi; exact hw 1 (.ref 0) rfl (live _)
    · cases hi; exact hw 2 (.ref 155) rfl (live _)
    · cases hi; exact hw 3 (.int x) rfl (livi _)
    · cases hi; exact hw 4 (.ref 181) rfl (live _)
    · cases hi; exact hw 5 (.int (nI ac)) rfl (livi _)
  have hok2 : a_oks (f_hp 181 σ).length (w_l2 x ac) := by
    rw [f_hp_len]
    intro v hv i hi
    subst hi
    simp only [w_l2, List.mem_cons, List.not_mem_nil, or_false, Value.ref.injEq, reduceCtorEq, false_or] at hv
    rcases hv with rfl | rfl | rfl | rfl
    · exact Or.inr (Nat.le_refl _)
    · exact Or.inl (by decide)
    · exact Or.inl (by decide)
    · exact Or.inr (Nat.le_add_right _ _)
  have hok3 : a_oks (f_hp 181 σ).length [.ref (a_big + 8), .ref 0] := by
    rw [f_hp_len]
    intro v hv i hi
    subst hi
    simp only [List.mem_cons, List.not_mem_nil, or_false, Value.ref.injEq] at hv
    rcases hv with rfl | rfl
    · exact Or.inr (Nat.le_add_right _ _)
    · exact Or.inl (by decide)
  exact kk H' _ _ ⟨X.1, X.2.1, X.2.2.1, X.2.2.2.1, X.2.2.2.2.1, fun y hy => ⟨X.2.2.2.2.2.1 y (by omega), by omega, by omega⟩, amb2, X.2.2.2.2.2.2.2⟩ (fun y hy => hAs y hy.1) ⟨by omega, fun y hy => by rw [hold y (by omega)]; exact h8.2.1 y hy (fun z => Nat.not_lt.mpr (hAs y z) hy)⟩ _ ca H' [] (cells + 2) (slots + (4 + tx.length)) ls' (a_agr_refl _ _) (Nat.zero_le _) hll hok2 hok3 (w_okh h3) hWd va_S.rf (by omega) (by omega)
