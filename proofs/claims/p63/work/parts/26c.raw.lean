/-! Raw runs: the constructors, over heaps that grow. -/
section A26c
variable {MT : Nat → Option a_Md} {xs : Nat → Int32} {L N N2 : Nat} {q y : a_Md} {pc pc' len a b : Nat} {ls ls' st r vs : List Value} {σ σ' : f_M} {c n c' n' : Nat} {h h' h0 t t' : a_H} {w : a_R × a_H} {B m j o9 ci k : Nat} {fs : List Value} {v : Value}
def f_run (MT : Nat → Option a_Md) (xs : Nat → Int32) (L i : Nat) (vs : List Value) (h : a_H) (w : a_R × a_H) : Prop := ∃ F d, a_run MT xs L F d i vs h = some w
theorem r_of {i : Nat} (hq : MT i = some q) (hl : (a_ent vs).length ≤ m_nL q) (he : a_loc (m_nL q) vs = ls) (S : f_ok MT xs L q 0 ls [] h (m_kc q) (m_kn q) w) : f_run MT xs L i vs h w := by
  obtain ⟨F, d, f, e⟩ := S
  refine ⟨max F f, d + 1, ?_⟩
  unfold a_run
  rw [hq]
  dsimp only
  rw [if_pos hl, he]
  exact a_ex_mono (fun i vs h w e => a_run_mono (Nat.le_max_left F f) d d i vs h w (Nat.le_refl _) e) f _ _ _ _ _ _ _ _ (Nat.le_max_right F f) e
theorem r_stp (h1 : a_1 MT xs L q pc ls st h c n = some (.inl (pc', ls', r, h', c', n'))) (K : f_ok MT xs L q pc' ls' r h' c' n' w) : f_ok MT xs L q pc ls st h c n w := by
  obtain ⟨F, d, f, e⟩ := K
  exact ⟨F, d, f + 1, by unfold a_ex; rw [h1]; exact e⟩
theorem r_fold (e : t = t') (K : f_ok MT xs L q pc ls st (h0 ++ t') c n w) : f_ok MT xs L q pc ls st (h0 ++ t) c n w := by subst e; exact K
theorem r_at {x : a_C} (hB : h0.length = B) (e : t[j]? = some x) (ho : o9 = B + j) : (h0 ++ t)[o9]? = some x := by
  subst ho hB
  rw [List.getElem?_append_right (Nat.le_add_right _ _), Nat.add_sub_cancel_left]
  exact e
theorem r_set {x : a_C} (hB : h0.length = B) (ho : o9 = B + j) : (h0 ++ t).set o9 x = h0 ++ t.set j x := by
  subst ho hB
  rw [List.set_append_right _ _ (Nat.le_add_right _ _), Nat.add_sub_cancel_left]
theorem r_sim {o : Option f_W} {w9 : f_W} (S : f_Sim MT xs L N N q pc ls st σ c n o) (ho : o = some w9) : f_ok MT xs L q pc ls st (f_hp N σ) c n (w9.1, f_hp N w9.2) := S w9 ho
theorem r_aload_n {k : Fin 4} {x : Nat} (hat : a_at (m_is q) pc = some (.aload_n k, len, a, b)) (hl : ls[(k : Nat)]? = some (.ref x)) (hp : pc + 1 = pc') (K : f_ok MT xs L q pc' ls (.ref x :: st) h c n w) : f_ok MT xs L q pc ls st h c n w := by
  subst hp
  exact r_stp (by unfold a_1; rw [hat]; simp only [a_ins, a_ldA, hl, Option.map_some]) K
theorem r_iload_n {k : Fin 4} {x : Int32} (hat : a_at (m_is q) pc = some (.iload_n k, len, a, b)) (hl : ls[(k : Nat)]? = some (.int x)) (hp : pc + 1 = pc') (K : f_ok MT xs L q pc' ls (.int x :: st) h c n w) : f_ok MT xs L q pc ls st h c n w := by
  subst hp
  exact r_stp (by unfold a_1; rw [hat]; simp only [a_ins, a_ldI, hl, Option.map_some]) K
theorem r_iconst {k : Int} {v : Int32} (hat : a_at (m_is q) pc = some (.iconst k, len, a, b)) (hv : Int32.ofInt k = v) (hp : pc + 1 = pc') (K : f_ok MT xs L q pc' ls (.int v :: st) h c n w) : f_ok MT xs L q pc ls st h c n w := by
  subst hv hp
  exact r_stp (by unfold a_1; rw [hat]; rfl) K
theorem r_bipush {k : Int} {v : Int32} (hat : a_at (m_is q) pc = some (.bipush k, len, a, b)) (hv : (Int8.ofInt k).toInt32 = v) (hp : pc + 2 = pc') (K : f_ok MT xs L q pc' ls (.int v :: st) h c n w) : f_ok MT xs L q pc ls st h c n w := by
  subst hv hp
  exact r_stp (by unfold a_1; rw [hat]; rfl) K
theorem r_sipush {k : Int} {v : Int32} (hat : a_at (m_is q) pc = some (.sipush k, len, a, b)) (hv : (Int16.ofInt k).toInt32 = v) (hp : pc + 3 = pc') (K : f_ok MT xs L q pc' ls (.int v :: st) h c n w) : f_ok MT xs L q pc ls st h c n w := by
  subst hv hp
  exact r_stp (by unfold a_1; rw [hat]; rfl) K
theorem r_ldc {k : Nat} (hat : a_at (m_is q) pc = some (.ldc k, len, a, b)) (hp : pc + 2 = pc') (K : f_ok MT xs L q pc' ls (.ref (a_big + 1 + a) :: st) h c n w) (ha9 : ¬ a_big ≤ a := by decide) : f_ok MT xs L q pc ls st h c n w := by
  subst hp
  exact r_stp (by unfold a_1; rw [hat]; simp only [a_ins, if_neg ha9, Option.map_some]) K
theorem r_dup (hat : a_at (m_is q) pc = some (.dup, len, a, b)) (hv : v.category = 1) (hp : pc + 1 = pc') (K : f_ok MT xs L q pc' ls (v :: v :: st) h c n w) : f_ok MT xs L q pc ls (v :: st) h c n w := by
  subst hp
  exact r_stp (by unfold a_1; rw [hat]; simp only [a_ins, hv, if_true, Option.map_some]) K
theorem r_istore_n {k : Fin 4} {x : Int32} (hat : a_at (m_is q) pc = some (.istore_n k, len, a, b)) (hk : (k : Nat) < ls.length) (hs : a_sto ls k (.int x) = ls') (hp : pc + 1 = pc') (K : f_ok MT xs L q pc' ls' st h c n w) : f_ok MT xs L q pc ls (.int x :: st) h c n w := by
  subst hp hs
  exact r_stp (by unfold a_1; rw [hat]; simp only [a_ins, hk, if_true, Option.map_some]) K
theorem r_istore {k : Nat} {x : Int32} (hat : a_at (m_is q) pc = some (.istore k, len, a, b)) (hk : k < ls.length) (hs : a_sto ls k (.int x) = ls') (hp : pc + 2 = pc') (K : f_ok MT xs L q pc' ls' st h c n w) : f_ok MT xs L q pc ls (.int x :: st) h c n w := by
  subst hp hs
  exact r_stp (by unfold a_1; rw [hat]; simp only [a_ins, hk, if_true, Option.map_some]) K
theorem r_astore_n {k : Fin 4} {x : Nat} (hat : a_at (m_is q) pc = some (.astore_n k, len, a, b)) (hk : (k : Nat) < ls.length) (hs : a_sto ls k (.ref x) = ls') (hp : pc + 1 = pc') (K : f_ok MT xs L q pc' ls' st h c n w) : f_ok MT xs L q pc ls (.ref x :: st) h c n w := by
  subst hp hs
  exact r_stp (by unfold a_1; rw [hat]; simp only [a_ins, hk, if_true, Option.map_some]) K
theorem r_iinc {k : Nat} {d : Int} {x v : Int32} (hat : a_at (m_is q) pc = some (.iinc k d, len, a, b)) (hl : ls[k]? = some (.int x)) (hv : x + Int32.ofInt d = v) (hs : a_sto ls k (.int v) = ls') (hp : pc + 3 = pc') (K : f_ok MT xs L q pc' ls' st h c n w) : f_ok MT xs L q pc ls st h c n w := by
  subst hp hs hv
  exact r_stp (by unfold a_1; rw [hat]; simp only [a_ins, hl, Option.map_some]) K
theorem r_goto {off : Int} (hat : a_at (m_is q) pc = some (.goto off, len, a, b)) (hp : 0 ≤ (pc : Int) + off ∧ ((pc : Int) + off).toNat = pc') (K : f_ok MT xs L q pc' ls st h c n w) : f_ok MT xs L q pc ls st h c n w := by
  obtain ⟨h0, rfl⟩ := hp
  exact r_stp (by unfold a_1; rw [hat]; simp only [a_ins, h0, if_true, Option.map_some]) K
theorem r_icmp {cnd : ClassFile.Cond} {off : Int} {x y : Int32} {bb : Bool} (hat : a_at (m_is q) pc = some (.if_icmp cnd off, len, a, b)) (hc : a_c2 cnd x y = bb) (hp : 0 ≤ (pc : Int) + off ∧ (if bb then ((pc : Int) + off).toNat else pc + 3) = pc') (K : f_ok MT xs L q pc' ls st h c n w) : f_ok MT xs L q pc ls (.int y :: .int x :: st) h c n w := by
  obtain ⟨h0, rfl⟩ := hp
  exact r_stp (by unfold a_1; rw [hat]; simp only [a_ins, h0, hc, if_true, Option.map_some]) K
theorem r_put {i9 : Nat} (hB : h0.length = B) (hat : a_at (m_is q) pc = some (.putfield i9, len, ci, k)) (hg : t[j]? = some (.inr (ci, fs))) (ho : o9 = B + j) (hn : k < fs.length ∧ narrow (a_ty ci k) v = v ∧ fits (a_ty ci k) v = true) (hp : pc + 3 = pc') (K : f_ok MT xs L q pc' ls st (h0 ++ t.set j (.inr (ci, fs.set k v))) c n w) : f_ok MT xs L q pc ls (v :: .ref o9 :: st) (h0 ++ t) c n w := by
  subst hp
  refine r_stp ?_ K
  unfold a_1
  rw [hat]
  simp only [a_ins, a_pf, r_at hB hg ho, r_set hB ho]
  rw [if_pos ⟨trivial, hn.1, hn.2.1, hn.2.2⟩]
  rfl
theorem r_get {i9 : Nat} (hB : h0.length = B) (hat : a_at (m_is q) pc = some (.getfield i9, len, ci, k)) (hg : t[j]? = some (.inr (ci, fs))) (ho : o9 = B + j) (hv : fs[k]? = some v) (hp : pc + 3 = pc') (K : f_ok MT xs L q pc' ls (v :: st) (h0 ++ t) c n w) : f_ok MT xs L q pc ls (.ref o9 :: st) (h0 ++ t) c n w := by
  subst hp
  refine r_stp ?_ K
  unfold a_1
  rw [hat]
  simp only [a_ins, a_gf, r_at hB hg ho, if_true, hv, Option.map_some]
theorem r_new {i9 : Nat} (hB : h0.length = B) (hat : a_at (m_is q) pc = some (.new i9, len, a, b)) (ha : a < 11) (hl : B + t.length = m) (hm : m < a_big) (hc : 1 ≤ c ∧ a_nf a ≤ n) (hd : (List.range (a_nf a)).map (fun k => defaultValue (a_ty a k)) = fs) (hp : pc + 3 = pc' ∧ c - 1 = c' ∧ n - a_nf a = n') (K : f_ok MT xs L q pc' ls (.ref m :: st) (h0 ++ (t ++ [.inr (a, fs)])) c' n' w) : f_ok MT xs L q pc ls st (h0 ++ t) c n w := by
  obtain ⟨rfl, rfl, rfl⟩ := hp
  refine r_stp ?_ K
  have hlen : (h0 ++ t).length = m := by rw [List.length_append, hB]; exact hl
  unfold a_1
  rw [hat]
  dsimp only
  rw [if_neg (by omega)]
  simp only [a_ins, hlen, hd]
  rw [if_pos ⟨hc.1, hc.2, hm, ha⟩, List.append_assoc]
  rfl
theorem r_newarr {at9 : ArrayType} {k9 : Int32} {ty : FieldType} {els : (Nat → Int32) ⊕ (Nat → Int64) ⊕ (Nat → UInt32) ⊕ (Nat → UInt64) ⊕ (Nat → Option Nat)} {z : Nat} (hB : h0.length = B) (hat : a_at (m_is q) pc = some (.newarray at9, len, a, b)) (hty : newarray.typeOf at9 = ty) (hx : a_df ty = some (0, els)) (hk : k9.toNatClampNeg = z ∧ ¬ k9 < 0 ∧ z ≤ 65536) (hl : B + t.length = m) (hm : m < a_big) (hc : 1 ≤ c ∧ z ≤ n) (hp : pc + 2 = pc' ∧ c - 1 = c' ∧ n - z = n') (K : f_ok MT xs L q pc' ls (.ref m :: st) (h0 ++ (t ++ [.inl (ty, z, els)])) c' n' w) : f_ok MT xs L q pc ls (.int k9 :: st) (h0 ++ t) c n w := by
  obtain ⟨rfl, rfl, rfl⟩ := hp
  refine r_stp ?_ K
  have hlen : (h0 ++ t).length = m := by rw [List.length_append, hB]; exact hl
  unfold a_1
  rw [hat]
  simp only [a_ins, hlen, hty, hx, hk.1]
  rw [if_pos ⟨hc.1, hc.2, hm, hk.2.1, hk.2.2⟩, List.append_assoc]
  rfl
theorem r_anew {i9 : Nat} {k9 : Int32} {z : Nat} (hB : h0.length = B) (hat : a_at (m_is q) pc = some (.anewarray i9, len, a, b)) (hk : k9.toNatClampNeg = z ∧ ¬ k9 < 0 ∧ z ≤ 65536) (hl : B + t.length = m) (hm : m < a_big) (hc : 1 ≤ c ∧ z ≤ n) (hp : pc + 3 = pc' ∧ c - 1 = c' ∧ n - z = n') (K : f_ok MT xs L q pc' ls (.ref m :: st) (h0 ++ (t ++ [.inl (.object (a_cn a), z, .inr (.inr (.inr (.inr (fun _ => none)))))])) c' n' w) : f_ok MT xs L q pc ls (.int k9 :: st) (h0 ++ t) c n w := by
  obtain ⟨rfl, rfl, rfl⟩ := hp
  refine r_stp ?_ K
  have hlen : (h0 ++ t).length = m := by rw [List.length_append, hB]; exact hl
  unfold a_1
  rw [hat]
  simp only [a_ins, hlen, hk.1]
  rw [if_pos ⟨hc.1, hc.2, hm, hk.2.1, hk.2.2⟩, List.append_assoc]
  rfl
theorem r_multi {i9 d9 : Nat} {k9 m9 : Int32} {z u : Nat} (hB : h0.length = B) (hat : a_at (m_is q) pc = some (.multianewarray i9 d9, len, a, b)) (hd : d9 = 2) (hk : m9.toNatClampNeg = u ∧ k9.toNatClampNeg = z ∧ ¬ m9 < 0 ∧ ¬ k9 < 0 ∧ u ≤ 1000 ∧ z ≤ 1000) (hl : B + t.length = m) (hm : m + u + 1 < a_big) (hc : 1 + u ≤ c ∧ u + u * z ≤ n) (hp : pc + 4 = pc' ∧ c - (1 + u) = c' ∧ n - (u + u * z) = n') (K : f_ok MT xs L q pc' ls (.ref m :: st) (h0 ++ (t ++ (a_m1 (m + 1) u :: List.replicate u (a_m2 z)))) c' n' w) : f_ok MT xs L q pc ls (.int k9 :: .int m9 :: st) (h0 ++ t) c n w := by
  obtain ⟨rfl, rfl, rfl⟩ := hp
  subst hd
  refine r_stp ?_ K
  have hlen : (h0 ++ t).length = m := by rw [List.length_append, hB]; exact hl
  unfold a_1
  rw [hat]
  simp only [a_mn, hlen, hk.1, hk.2.1, if_true]
  rw [if_pos ⟨⟨hk.2.2.1, hk.2.2.2.1⟩, ⟨hk.2.2.2.2.1, hk.2.2.2.2.2⟩, hc.1, hc.2, hm⟩, List.append_assoc]
  rfl
theorem r_aast {k9 : Int32} {q9 z n9 : Nat} {f9 : Nat → Option Nat} (hB : h0.length = B) (hat : a_at (m_is q) pc = some (.aastore, len, ci, b)) (hg : t[j]? = some (.inl (.object (a_cn ci), n9, .inr (.inr (.inr (.inr f9)))))) (ho : o9 = B + j) {jq : Nat} (hq : t[jq]? = some (.inr (ci, fs))) (hoq : q9 = B + jq) (hk : k9.toNatClampNeg = z ∧ ¬ k9 < 0 ∧ ¬ n9 ≤ z ∧ ci < 11) (hp : pc + 1 = pc') (K : f_ok MT xs L q pc' ls st (h0 ++ t.set j (.inl (.object (a_cn ci), n9, .inr (.inr (.inr (.inr (va_up f9 z (some q9)))))))) c n w) : f_ok MT xs L q pc ls (.ref q9 :: .int k9 :: .ref o9 :: st) (h0 ++ t) c n w := by
  subst hp
  refine r_stp ?_ K
  unfold a_1
  rw [hat]
  simp only [a_ins, a_wq, r_at hB hg ho, r_at hB hq hoq, hk.1, r_set hB ho]
  rw [if_pos ⟨by intro h; rcases h with h | h; exact hk.2.1 h; exact hk.2.2.1 h, trivial, hk.2.2.2, trivial⟩]
  rfl
theorem r_obj {i9 : Nat} {x : Nat} (hat : a_at (m_is q) pc = some (.invokespecial i9, len, 1000, b)) (hs : a_sum st ≤ 8) (hp : pc + 3 = pc') (K : f_ok MT xs L q pc' ls st h c n w) : f_ok MT xs L q pc ls (.ref x :: st) h c n w := by
  subst hp
  refine r_stp ?_ K
  unfold a_1
  rw [hat]
  simp only [show 1000 ≤ 1000 from by omega, if_true, show 1000 - 1000 = 0 from rfl, a_bi, a_b0, hs, Option.map_some]
theorem r_kall {j9 : Nat} {as : List Value} (h1 : a_1 MT xs L q pc ls st h c n = some (.inr (.inl (j9, as, (pc, ls, r, h, c, n))))) (hy : MT j9 = some y) {v9 : Option Value} (hG : f_run MT xs L j9 as h (.inl v9, h')) (hp : pc + 3 = pc' ∧ c - m_kc y = c' ∧ n - m_kn y = n' ∧ v9.toList ++ r = vs) (K : f_ok MT xs L q pc' ls vs h' c' n' w) : f_ok MT xs L q pc ls st h c n w := by
  obtain ⟨rfl, rfl, rfl, rfl⟩ := hp
  obtain ⟨F1, d1, e1⟩ := hG
  obtain ⟨F2, d2, f2, e2⟩ := K
  refine ⟨max F1 F2, max d1 d2, f2 + 1, ?_⟩
  unfold a_ex
  rw [h1]
  dsimp only
  rw [hy, a_run_mono (Nat.le_max_left F1 F2) d1 _ _ _ _ _ (Nat.le_max_left d1 d2) e1]
  exact a_ex_mono (fun i vs h w e => a_run_mono (Nat.le_max_right F1 F2) d2 _ i vs h w (Nat.le_max_right d1 d2) e) f2 f2 _ _ _ _ _ _ _ (Nat.le_refl _) e2
theorem r_spec {i9 j9 : Nat} {x : Nat} (hat : a_at (m_is q) pc = some (.invokespecial i9, len, j9, b)) (hj : ¬ 1000 ≤ j9) (hy : MT j9 = some y) (hna : m_na y = 1) (hb : m_kc y ≤ c ∧ m_kn y ≤ n ∧ a_sum r ≤ 8) (hb2 : b ≠ 2 := by decide) :
    a_1 MT xs L q pc ls (.ref x :: r) h c n = some (.inr (.inl (j9, [.ref x], (pc, ls, r, h, c, n)))) := by
  unfold a_1
  rw [hat]
  dsimp only
  rw [if_neg hj, hy]
  dsimp only
  rw [hna, if_pos ⟨by simp, hb.1, hb.2.1, hb.2.2, by omega, rfl, fun e => absurd e hb2⟩]
  rfl
theorem r_vret (hat : a_at (m_is q) pc = some (.return_, len, a, b)) (hr : m_rt q = none) (e : h = h') : f_ok MT xs L q pc ls [] h c n (.inl none, h') := by
  subst e
  refine ⟨0, 0, 1, ?_⟩
  unfold a_ex a_1
  rw [hat]
  dsimp only
  rw [if_pos hr]
/-- a call of a flat program -/
theorem r_cal {i : Nat} {o : Option f_W} {w9 : f_W} (G : f_Cal MT xs L N i vs σ o) (ho : o = some w9) : f_run MT xs L i vs (f_hp N σ) (w9.1, f_hp N w9.2) := G w9 ho
theorem r_simN {o : Option f_W} (K : ∀ w9, o = some w9 → f_ok MT xs L q pc ls st (f_hp N σ) c n (w9.1, f_hp N w9.2)) : f_Sim MT xs L N N q pc ls st σ c n o := K
/-- heaps that grow by a cell of its kind -/
theorem f_hp_app {x : a_C} (e : f_cell (f_shape N) (σ N) = x) : f_hp N σ ++ [x] = f_hp (N + 1) σ := by
  unfold f_hp
  rw [List.range_succ, List.map_append, e.symm]
  rfl
theorem f_hp_eq (e : ∀ a, a < N → σ a = σ' a) : f_hp N σ = f_hp N σ' := by
  unfold f_hp
  apply List.map_congr_left
  intro b hb
  rw [e b (List.mem_range.mp hb)]
end A26c
