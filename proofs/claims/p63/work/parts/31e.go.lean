/-! Raw rows for runs that stop on the way. -/
section A26g
variable {MT : Nat → Option a_Md} {xs : Nat → Int32} {L N N2 : Nat} {q y : a_Md} {pc pc' len a b : Nat} {ls ls' st r vs : List Value} {σ σ' : f_M} {c n c' n' : Nat} {h h' h0 t t' : a_H} {w w2 : a_S} {B m j o9 ci k : Nat} {fs : List Value} {v u : Value} {x z : Int32}
def g_ok (MT : Nat → Option a_Md) (xs : Nat → Int32) (L : Nat) (q : a_Md) (pc : Nat) (ls st : List Value) (h : a_H) (c n : Nat) (w : a_S) : Prop := ∃ F d f, a_go (a_run MT xs L F d) MT xs L q f (pc, ls, st, h, c, n) = some w
theorem a_go_mono {K K2 : Nat → List Value → a_H → Option (a_R × a_H)} (hK : ∀ i vs h w, K i vs h = some w → K2 i vs h = some w) : ∀ (f : Nat) (z w : a_S), a_go K MT xs L q f z = some w → a_go K2 MT xs L q f z = some w := by
  intro f
  induction f with
  | zero => intro z w e; exact e
  | succ f ih =>
    intro z w e
    unfold a_go at e ⊢
    cases h1 : a_1 MT xs L q z.1 z.2.1 z.2.2.1 z.2.2.2.1 z.2.2.2.2.1 z.2.2.2.2.2 with
    | none => rw [h1] at e; cases e
    | some o =>
      rw [h1] at e
      rcases o with z1 | z1 | z1
      · exact ih _ _ e
      · dsimp only at e ⊢
        split at e
        · rename_i y v h' hy hk
          rw [hy, hK _ _ _ _ hk]
          exact ih _ _ e
        · cases e
      · cases e
theorem a_go_add {K : Nat → List Value → a_H → Option (a_R × a_H)} : ∀ (f g : Nat) (z z1 w : a_S), a_go K MT xs L q f z = some z1 → a_go K MT xs L q g z1 = some w → a_go K MT xs L q (f + g) z = some w := by
  intro f
  induction f with
  | zero => intro g z z1 w e1 e2; cases e1; rw [Nat.zero_add]; exact e2
  | succ f ih =>
    intro g z z1 w e1 e2
    rw [show f + 1 + g = (f + g) + 1 by omega]
    unfold a_go at e1 ⊢
    cases h1 : a_1 MT xs L q z.1 z.2.1 z.2.2.1 z.2.2.2.1 z.2.2.2.2.1 z.2.2.2.2.2 with
    | none => rw [h1] at e1; cases e1
    | some o =>
      rw [h1] at e1
      rcases o with z2 | z2 | z2
      · exact ih _ _ _ _ e1 e2
      · dsimp only at e1 ⊢
        split at e1
        · rename_i y v h' hy hk
          exact ih _ _ _ _ e1 e2
        · cases e1
      · cases e1
theorem g_end : g_ok MT xs L q pc ls st h c n (pc, ls, st, h, c, n) := ⟨0, 0, 0, rfl⟩
theorem g_tr {z : a_S} (h1 : g_ok MT xs L q pc ls st h c n z) (h2 : g_ok MT xs L q z.1 z.2.1 z.2.2.1 z.2.2.2.1 z.2.2.2.2.1 z.2.2.2.2.2 w) : g_ok MT xs L q pc ls st h c n w := by
  obtain ⟨F1, d1, f1, e1⟩ := h1
  obtain ⟨F2, d2, f2, e2⟩ := h2
  refine ⟨max F1 F2, max d1 d2, f1 + f2, a_go_add _ _ _ z _ (a_go_mono (fun i vs h w e => a_run_mono (Nat.le_max_left F1 F2) d1 _ i vs h w (Nat.le_max_left d1 d2) e) _ _ _ e1) (a_go_mono (fun i vs h w e => a_run_mono (Nat.le_max_right F1 F2) d2 _ i vs h w (Nat.le_max_right d1 d2) e) _ _ _ e2)⟩
theorem s_stp (h1 : a_1 MT xs L q pc ls st h c n = some (.inl (pc', ls', r, h', c', n'))) (K : g_ok MT xs L q pc' ls' r h' c' n' w) : g_ok MT xs L q pc ls st h c n w := by
  obtain ⟨F, d, f, e⟩ := K
  exact ⟨F, d, f + 1, by unfold a_go; dsimp only; rw [h1]; exact e⟩
theorem s_kall {j9 : Nat} {as : List Value} (h1 : a_1 MT xs L q pc ls st h c n = some (.inr (.inl (j9, as, (pc, ls, r, h, c, n))))) (hy : MT j9 = some y) {v9 : Option Value} (hG : f_run MT xs L j9 as h (.inl v9, h')) (hp : pc + 3 = pc' ∧ c - m_kc y = c' ∧ n - m_kn y = n' ∧ v9.toList ++ r = vs) (K : g_ok MT xs L q pc' ls vs h' c' n' w) : g_ok MT xs L q pc ls st h c n w := by
  obtain ⟨rfl, rfl, rfl, rfl⟩ := hp
  obtain ⟨F1, d1, e1⟩ := hG
  obtain ⟨F2, d2, f2, e2⟩ := K
  refine ⟨max F1 F2, max d1 d2, f2 + 1, ?_⟩
  unfold a_go
  dsimp only
  rw [h1]
  dsimp only
  rw [hy, a_run_mono (Nat.le_max_left F1 F2) d1 _ _ _ _ _ (Nat.le_max_left d1 d2) e1]
  exact a_go_mono (fun i vs h w e => a_run_mono (Nat.le_max_right F1 F2) d2 _ i vs h w (Nat.le_max_right d1 d2) e) _ _ _ e2
theorem s_fold (e : t = t') (K : g_ok MT xs L q pc ls st (h0 ++ t') c n w) : g_ok MT xs L q pc ls st (h0 ++ t) c n w := by subst e; exact K
theorem s_aload_n {k : Fin 4} {x : Nat} (hat : a_at (m_is q) pc = some (.aload_n k, len, a, b)) (hl : ls[(k : Nat)]? = some (.ref x)) (hp : pc + 1 = pc') (K : g_ok MT xs L q pc' ls (.ref x :: st) h c n w) : g_ok MT xs L q pc ls st h c n w := by
  subst hp
  exact s_stp (by unfold a_1; rw [hat]; simp only [a_ins, a_ldA, hl, Option.map_some]) K
theorem s_iload_n {k : Fin 4} {x : Int32} (hat : a_at (m_is q) pc = some (.iload_n k, len, a, b)) (hl : ls[(k : Nat)]? = some (.int x)) (hp : pc + 1 = pc') (K : g_ok MT xs L q pc' ls (.int x :: st) h c n w) : g_ok MT xs L q pc ls st h c n w := by
  subst hp
  exact s_stp (by unfold a_1; rw [hat]; simp only [a_ins, a_ldI, hl, Option.map_some]) K
theorem s_iconst {k : Int} {v : Int32} (hat : a_at (m_is q) pc = some (.iconst k, len, a, b)) (hv : Int32.ofInt k = v) (hp : pc + 1 = pc') (K : g_ok MT xs L q pc' ls (.int v :: st) h c n w) : g_ok MT xs L q pc ls st h c n w := by
  subst hv hp
  exact s_stp (by unfold a_1; rw [hat]; rfl) K
theorem s_bipush {k : Int} {v : Int32} (hat : a_at (m_is q) pc = some (.bipush k, len, a, b)) (hv : (Int8.ofInt k).toInt32 = v) (hp : pc + 2 = pc') (K : g_ok MT xs L q pc' ls (.int v :: st) h c n w) : g_ok MT xs L q pc ls st h c n w := by
  subst hv hp
  exact s_stp (by unfold a_1; rw [hat]; rfl) K
theorem s_sipush {k : Int} {v : Int32} (hat : a_at (m_is q) pc = some (.sipush k, len, a, b)) (hv : (Int16.ofInt k).toInt32 = v) (hp : pc + 3 = pc') (K : g_ok MT xs L q pc' ls (.int v :: st) h c n w) : g_ok MT xs L q pc ls st h c n w := by
  subst hv hp
  exact s_stp (by unfold a_1; rw [hat]; rfl) K
theorem s_ldc {k : Nat} (hat : a_at (m_is q) pc = some (.ldc k, len, a, b)) (hp : pc + 2 = pc') (K : g_ok MT xs L q pc' ls (.ref (a_big + 1 + a) :: st) h c n w) (ha9 : ¬ a_big ≤ a := by decide) : g_ok MT xs L q pc ls st h c n w := by
  subst hp
  exact s_stp (by unfold a_1; rw [hat]; simp only [a_ins, if_neg ha9, Option.map_some]) K
theorem s_dup (hat : a_at (m_is q) pc = some (.dup, len, a, b)) (hv : v.category = 1) (hp : pc + 1 = pc') (K : g_ok MT xs L q pc' ls (v :: v :: st) h c n w) : g_ok MT xs L q pc ls (v :: st) h c n w := by
  subst hp
  exact s_stp (by unfold a_1; rw [hat]; simp only [a_ins, hv, if_true, Option.map_some]) K
theorem s_istore_n {k : Fin 4} {x : Int32} (hat : a_at (m_is q) pc = some (.istore_n k, len, a, b)) (hk : (k : Nat) < ls.length) (hs : a_sto ls k (.int x) = ls') (hp : pc + 1 = pc') (K : g_ok MT xs L q pc' ls' st h c n w) : g_ok MT xs L q pc ls (.int x :: st) h c n w := by
  subst hp hs
  exact s_stp (by unfold a_1; rw [hat]; simp only [a_ins, hk, if_true, Option.map_some]) K
theorem s_istore {k : Nat} {x : Int32} (hat : a_at (m_is q) pc = some (.istore k, len, a, b)) (hk : k < ls.length) (hs : a_sto ls k (.int x) = ls') (hp : pc + 2 = pc') (K : g_ok MT xs L q pc' ls' st h c n w) : g_ok MT xs L q pc ls (.int x :: st) h c n w := by
  subst hp hs
  exact s_stp (by unfold a_1; rw [hat]; simp only [a_ins, hk, if_true, Option.map_some]) K
theorem s_astore_n {k : Fin 4} {x : Nat} (hat : a_at (m_is q) pc = some (.astore_n k, len, a, b)) (hk : (k : Nat) < ls.length) (hs : a_sto ls k (.ref x) = ls') (hp : pc + 1 = pc') (K : g_ok MT xs L q pc' ls' st h c n w) : g_ok MT xs L q pc ls (.ref x :: st) h c n w := by
  subst hp hs
  exact s_stp (by unfold a_1; rw [hat]; simp only [a_ins, hk, if_true, Option.map_some]) K
theorem s_iinc {k : Nat} {d : Int} {x v : Int32} (hat : a_at (m_is q) pc = some (.iinc k d, len, a, b)) (hl : ls[k]? = some (.int x)) (hv : x + Int32.ofInt d = v) (hs : a_sto ls k (.int v) = ls') (hp : pc + 3 = pc') (K : g_ok MT xs L q pc' ls' st h c n w) : g_ok MT xs L q pc ls st h c n w := by
  subst hp hs hv
  exact s_stp (by unfold a_1; rw [hat]; simp only [a_ins, hl, Option.map_some]) K
theorem s_goto {off : Int} (hat : a_at (m_is q) pc = some (.goto off, len, a, b)) (hp : 0 ≤ (pc : Int) + off ∧ ((pc : Int) + off).toNat = pc') (K : g_ok MT xs L q pc' ls st h c n w) : g_ok MT xs L q pc ls st h c n w := by
  obtain ⟨h0, rfl⟩ := hp
  exact s_stp (by unfold a_1; rw [hat]; simp only [a_ins, h0, if_true, Option.map_some]) K
theorem s_icmp {cnd : ClassFile.Cond} {off : Int} {x y : Int32} {bb : Bool} (hat : a_at (m_is q) pc = some (.if_icmp cnd off, len, a, b)) (hc : a_c2 cnd x y = bb) (hp : 0 ≤ (pc : Int) + off ∧ (if bb then ((pc : Int) + off).toNat else pc + 3) = pc') (K : g_ok MT xs L q pc' ls st h c n w) : g_ok MT xs L q pc ls (.int y :: .int x :: st) h c n w := by
  obtain ⟨h0, rfl⟩ := hp
  exact s_stp (by unfold a_1; rw [hat]; simp only [a_ins, h0, hc, if_true, Option.map_some]) K
theorem s_put {i9 : Nat} (hB : h0.length = B) (hat : a_at (m_is q) pc = some (.putfield i9, len, ci, k)) (hg : t[j]? = some (.inr (ci, fs))) (ho : o9 = B + j) (hn : k < fs.length ∧ narrow (a_ty ci k) v = v ∧ fits (a_ty ci k) v = true) (hp : pc + 3 = pc') (K : g_ok MT xs L q pc' ls st (h0 ++ t.set j (.inr (ci, fs.set k v))) c n w) : g_ok MT xs L q pc ls (v :: .ref o9 :: st) (h0 ++ t) c n w := by
  subst hp
  refine s_stp ?_ K
  unfold a_1
  rw [hat]
  simp only [a_ins, a_pf, r_at hB hg ho, r_set hB ho]
  rw [if_pos ⟨trivial, hn.1, hn.2.1, hn.2.2⟩]
  rfl
theorem s_get {i9 : Nat} (hB : h0.length = B) (hat : a_at (m_is q) pc = some (.getfield i9, len, ci, k)) (hg : t[j]? = some (.inr (ci, fs))) (ho : o9 = B + j) (hv : fs[k]? = some v) (hp : pc + 3 = pc') (K : g_ok MT xs L q pc' ls (v :: st) (h0 ++ t) c n w) : g_ok MT xs L q pc ls (.ref o9 :: st) (h0 ++ t) c n w := by
  subst hp
  refine s_stp ?_ K
  unfold a_1
  rw [hat]
  simp only [a_ins, a_gf, r_at hB hg ho, if_true, hv, Option.map_some]
theorem s_new {i9 : Nat} (hB : h0.length = B) (hat : a_at (m_is q) pc = some (.new i9, len, a, b)) (ha : a < 11) (hl : B + t.length = m) (hm : m < a_big) (hc : 1 ≤ c ∧ a_nf a ≤ n) (hd : (List.range (a_nf a)).map (fun k => defaultValue (a_ty a k)) = fs) (hp : pc + 3 = pc' ∧ c - 1 = c' ∧ n - a_nf a = n') (K : g_ok MT xs L q pc' ls (.ref m :: st) (h0 ++ (t ++ [.inr (a, fs)])) c' n' w) : g_ok MT xs L q pc ls st (h0 ++ t) c n w := by
  obtain ⟨rfl, rfl, rfl⟩ := hp
  refine s_stp ?_ K
  have hlen : (h0 ++ t).length = m := by rw [List.length_append, hB]; exact hl
  unfold a_1
  rw [hat]
  dsimp only
  rw [if_neg (by omega)]
  simp only [a_ins, hlen, hd]
  rw [if_pos ⟨hc.1, hc.2, hm, ha⟩, List.append_assoc]
  rfl
theorem s_newarr {at9 : ArrayType} {k9 : Int32} {ty : FieldType} {els : (Nat → Int32) ⊕ (Nat → Int64) ⊕ (Nat → UInt32) ⊕ (Nat → UInt64) ⊕ (Nat → Option Nat)} {z : Nat} (hB : h0.length = B) (hat : a_at (m_is q) pc = some (.newarray at9, len, a, b)) (hty : newarray.typeOf at9 = ty) (hx : a_df ty = some (0, els)) (hk : k9.toNatClampNeg = z ∧ ¬ k9 < 0 ∧ z ≤ 65536) (hl : B + t.length = m) (hm : m < a_big) (hc : 1 ≤ c ∧ z ≤ n) (hp : pc + 2 = pc' ∧ c - 1 = c' ∧ n - z = n') (K : g_ok MT xs L q pc' ls (.ref m :: st) (h0 ++ (t ++ [.inl (ty, z, els)])) c' n' w) : g_ok MT xs L q pc ls (.int k9 :: st) (h0 ++ t) c n w := by
  obtain ⟨rfl, rfl, rfl⟩ := hp
  refine s_stp ?_ K
  have hlen : (h0 ++ t).length = m := by rw [List.length_append, hB]; exact hl
  unfold a_1
  rw [hat]
  simp only [a_ins, hlen, hty, hx, hk.1]
  rw [if_pos ⟨hc.1, hc.2, hm, hk.2.1, hk.2.2⟩, List.append_assoc]
  rfl
theorem s_anew {i9 : Nat} {k9 : Int32} {z : Nat} (hB : h0.length = B) (hat : a_at (m_is q) pc = some (.anewarray i9, len, a, b)) (hk : k9.toNatClampNeg = z ∧ ¬ k9 < 0 ∧ z ≤ 65536) (hl : B + t.length = m) (hm : m < a_big) (hc : 1 ≤ c ∧ z ≤ n) (hp : pc + 3 = pc' ∧ c - 1 = c' ∧ n - z = n') (K : g_ok MT xs L q pc' ls (.ref m :: st) (h0 ++ (t ++ [.inl (.object (a_cn a), z, .inr (.inr (.inr (.inr (fun _ => none)))))])) c' n' w) : g_ok MT xs L q pc ls (.int k9 :: st) (h0 ++ t) c n w := by
  obtain ⟨rfl, rfl, rfl⟩ := hp
  refine s_stp ?_ K
  have hlen : (h0 ++ t).length = m := by rw [List.length_append, hB]; exact hl
  unfold a_1
  rw [hat]
  simp only [a_ins, hlen, hk.1]
  rw [if_pos ⟨hc.1, hc.2, hm, hk.2.1, hk.2.2⟩, List.append_assoc]
  rfl
theorem s_multi {i9 d9 : Nat} {k9 m9 : Int32} {z u : Nat} (hB : h0.length = B) (hat : a_at (m_is q) pc = some (.multianewarray i9 d9, len, a, b)) (hd : d9 = 2) (hk : m9.toNatClampNeg = u ∧ k9.toNatClampNeg = z ∧ ¬ m9 < 0 ∧ ¬ k9 < 0 ∧ u ≤ 1000 ∧ z ≤ 1000) (hl : B + t.length = m) (hm : m + u + 1 < a_big) (hc : 1 + u ≤ c ∧ u + u * z ≤ n) (hp : pc + 4 = pc' ∧ c - (1 + u) = c' ∧ n - (u + u * z) = n') (K : g_ok MT xs L q pc' ls (.ref m :: st) (h0 ++ (t ++ (a_m1 (m + 1) u :: List.replicate u (a_m2 z)))) c' n' w) : g_ok MT xs L q pc ls (.int k9 :: .int m9 :: st) (h0 ++ t) c n w := by
  obtain ⟨rfl, rfl, rfl⟩ := hp
  subst hd
  refine s_stp ?_ K
  have hlen : (h0 ++ t).length = m := by rw [List.length_append, hB]; exact hl
  unfold a_1
  rw [hat]
  simp only [a_mn, hlen, hk.1, hk.2.1, if_true]
  rw [if_pos ⟨⟨hk.2.2.1, hk.2.2.2.1⟩, ⟨hk.2.2.2.2.1, hk.2.2.2.2.2⟩, hc.1, hc.2, hm⟩, List.append_assoc]
  rfl
theorem s_aast {k9 : Int32} {q9 z n9 : Nat} {f9 : Nat → Option Nat} (hB : h0.length = B) (hat : a_at (m_is q) pc = some (.aastore, len, ci, b)) (hg : t[j]? = some (.inl (.object (a_cn ci), n9, .inr (.inr (.inr (.inr f9)))))) (ho : o9 = B + j) {jq : Nat} (hq : t[jq]? = some (.inr (ci, fs))) (hoq : q9 = B + jq) (hk : k9.toNatClampNeg = z ∧ ¬ k9 < 0 ∧ ¬ n9 ≤ z ∧ ci < 11) (hp : pc + 1 = pc') (K : g_ok MT xs L q pc' ls st (h0 ++ t.set j (.inl (.object (a_cn ci), n9, .inr (.inr (.inr (.inr (va_up f9 z (some q9)))))))) c n w) : g_ok MT xs L q pc ls (.ref q9 :: .int k9 :: .ref o9 :: st) (h0 ++ t) c n w := by
  subst hp
  refine s_stp ?_ K
  unfold a_1
  rw [hat]
  simp only [a_ins, a_wq, r_at hB hg ho, r_at hB hq hoq, hk.1, r_set hB ho]
  rw [if_pos ⟨by intro h; rcases h with h | h; exact hk.2.1 h; exact hk.2.2.1 h, trivial, hk.2.2.2, trivial⟩]
  rfl
theorem s_obj {i9 : Nat} {x : Nat} (hat : a_at (m_is q) pc = some (.invokespecial i9, len, 1000, b)) (hs : a_sum st ≤ 8) (hp : pc + 3 = pc') (K : g_ok MT xs L q pc' ls st h c n w) : g_ok MT xs L q pc ls (.ref x :: st) h c n w := by
  subst hp
  refine s_stp ?_ K
  unfold a_1
  rw [hat]
  simp only [show 1000 ≤ 1000 from by omega, if_true, show 1000 - 1000 = 0 from rfl, a_bi, a_b0, hs, Option.map_some]
theorem s_aload {k : Nat} {x : Nat} (hat : a_at (m_is q) pc = some (.aload k, len, a, b)) (hl : ls[k]? = some (.ref x)) (hp : pc + 2 = pc') (K : g_ok MT xs L q pc' ls (.ref x :: st) h c n w) : g_ok MT xs L q pc ls st h c n w := by
  subst hp
  exact s_stp (by unfold a_1; rw [hat]; simp only [a_ins, a_ldA, hl, Option.map_some]) K
theorem s_iload {k : Nat} {x : Int32} (hat : a_at (m_is q) pc = some (.iload k, len, a, b)) (hl : ls[k]? = some (.int x)) (hp : pc + 2 = pc') (K : g_ok MT xs L q pc' ls (.int x :: st) h c n w) : g_ok MT xs L q pc ls st h c n w := by
  subst hp
  exact s_stp (by unfold a_1; rw [hat]; simp only [a_ins, a_ldI, hl, Option.map_some]) K
theorem s_astore {k : Nat} {x : Nat} (hat : a_at (m_is q) pc = some (.astore k, len, a, b)) (hk : k < ls.length) (hs : a_sto ls k (.ref x) = ls') (hp : pc + 2 = pc') (K : g_ok MT xs L q pc' ls' st h c n w) : g_ok MT xs L q pc ls (.ref x :: st) h c n w := by
  subst hs hp
  exact s_stp (by unfold a_1; rw [hat]; simp only [a_ins, hk, if_true, Option.map_some]) K
theorem s_ldci {k : Nat} {v : Int32} (hat : a_at (m_is q) pc = some (.ldc k, len, a, b)) (ha9 : a_big ≤ a) (hv : Int32.ofNat (a - a_big) = v) (hp : pc + 2 = pc') (K : g_ok MT xs L q pc' ls (.int v :: st) h c n w) : g_ok MT xs L q pc ls st h c n w := by
  subst hp hv
  exact s_stp (by unfold a_1; rw [hat]; simp only [a_ins, if_pos ha9, Option.map_some]) K
theorem s_bin {i : Instr} {v : Int32} (hat : a_at (m_is q) pc = some (i, len, a, b)) (hi : (i = .iadd ∧ x + z = v) ∨ (i = .isub ∧ x - z = v) ∨ (i = .imul ∧ x * z = v) ∨ (i = .ishl ∧ x <<< (z &&& 31) = v) ∨ (i = .ishr ∧ x >>> (z &&& 31) = v) ∨ (i = .idiv ∧ z ≠ 0 ∧ x / z = v) ∨ (i = .irem ∧ z ≠ 0 ∧ x - x / z * z = v)) (hp : pc + 1 = pc') (K : g_ok MT xs L q pc' ls (.int v :: st) h c n w) : g_ok MT xs L q pc ls (.int z :: .int x :: st) h c n w := by
  subst hp
  rcases hi with ⟨rfl, rfl⟩ | ⟨rfl, rfl⟩ | ⟨rfl, rfl⟩ | ⟨rfl, rfl⟩ | ⟨rfl, rfl⟩ | ⟨rfl, hz, rfl⟩ | ⟨rfl, hz, rfl⟩
  · exact s_stp (by unfold a_1; rw [hat]; rfl) K
  · exact s_stp (by unfold a_1; rw [hat]; rfl) K
  · exact s_stp (by unfold a_1; rw [hat]; rfl) K
  · exact s_stp (by unfold a_1; rw [hat]; rfl) K
  · exact s_stp (by unfold a_1; rw [hat]; rfl) K
  · exact s_stp (by unfold a_1; rw [hat]; simp only [a_ins, if_neg hz, Option.map_some]) K
  · exact s_stp (by unfold a_1; rw [hat]; simp only [a_ins, if_neg hz, Option.map_some]) K
theorem s_una {i : Instr} {v : Int32} (hat : a_at (m_is q) pc = some (i, len, a, b)) (hi : (i = .ineg ∧ -x = v) ∨ (i = .i2b ∧ x.toInt8.toInt32 = v) ∨ (i = .i2c ∧ (x.toUInt32 % 65536).toInt32 = v)) (hp : pc + 1 = pc') (K : g_ok MT xs L q pc' ls (.int v :: st) h c n w) : g_ok MT xs L q pc ls (.int x :: st) h c n w := by
  subst hp
  rcases hi with ⟨rfl, rfl⟩ | ⟨rfl, rfl⟩ | ⟨rfl, rfl⟩
  · exact s_stp (by unfold a_1; rw [hat]; rfl) K
  · exact s_stp (by unfold a_1; rw [hat]; rfl) K
  · exact s_stp (by unfold a_1; rw [hat]; rfl) K
theorem s_dup_x1 (hat : a_at (m_is q) pc = some (.dup_x1, len, a, b)) (hv : v.category = 1 ∧ u.category = 1) (hp : pc + 1 = pc') (K : g_ok MT xs L q pc' ls (v :: u :: v :: st) h c n w) : g_ok MT xs L q pc ls (v :: u :: st) h c n w := by
  subst hp
  exact s_stp (by unfold a_1; rw [hat]; simp only [a_ins, if_pos hv, Option.map_some]) K
theorem s_pop (hat : a_at (m_is q) pc = some (.pop, len, a, b)) (hv : v.category = 1) (hp : pc + 1 = pc') (K : g_ok MT xs L q pc' ls st h c n w) : g_ok MT xs L q pc ls (v :: st) h c n w := by
  subst hp
  exact s_stp (by unfold a_1; rw [hat]; simp only [a_ins, if_pos hv, Option.map_some]) K
theorem s_nonnull {off : Int} {x : Nat} (hat : a_at (m_is q) pc = some (.ifnonnull off, len, a, b)) (hp : 0 ≤ (pc : Int) + off ∧ ((pc : Int) + off).toNat = pc') (K : g_ok MT xs L q pc' ls st h c n w) : g_ok MT xs L q pc ls (.ref x :: st) h c n w := by
  obtain ⟨h0, rfl⟩ := hp
  exact s_stp (by unfold a_1; rw [hat]; simp only [a_ins, if_pos h0, Option.map_some]) K
theorem s_if {cnd : ClassFile.Cond} {off : Int} {bb : Bool} (hat : a_at (m_is q) pc = some (.ifCond cnd off, len, a, b)) (hc : a_c0 cnd x = bb) (hp : 0 ≤ (pc : Int) + off ∧ (if bb then ((pc : Int) + off).toNat else pc + 3) = pc') (K : g_ok MT xs L q pc' ls st h c n w) : g_ok MT xs L q pc ls (.int x :: st) h c n w := by
  obtain ⟨h0, rfl⟩ := hp
  exact s_stp (by unfold a_1; rw [hat]; simp only [a_ins, h0, hc, if_true, Option.map_some]) K
theorem s_gets {i9 : Nat} (hat : a_at (m_is q) pc = some (.getstatic i9, len, a, b)) (hv : (if a = 0 then .int 1 else .ref (a_big + 499 + a)) = v) (hp : pc + 3 = pc') (K : g_ok MT xs L q pc' ls (v :: st) h c n w) : g_ok MT xs L q pc ls st h c n w := by
  subst hp hv
  exact s_stp (by unfold a_1; rw [hat]; rfl) K
theorem s_alen {ty : FieldType} {e9} (hB : h0.length = B) (hat : a_at (m_is q) pc = some (.arraylength, len, a, b)) (hg : t[j]? = some (.inl (ty, m, e9))) (ho : o9 = B + j) (hb : o9 < a_big) (hp : pc + 1 = pc') (K : g_ok MT xs L q pc' ls (.int (nI m) :: st) (h0 ++ t) c n w) : g_ok MT xs L q pc ls (.ref o9 :: st) (h0 ++ t) c n w := by
  subst hp
  refine s_stp ?_ K
  unfold a_1
  rw [hat]
  simp only [a_ins, a_len, if_neg (Nat.ne_of_lt hb), r_at hB hg ho, Option.map_some]
  rfl
theorem s_bast {f : Nat → Int32} (hB : h0.length = B) (hat : a_at (m_is q) pc = some (.bastore, len, a, b)) (hg : t[j]? = some (.inl (.byte, m, .inl f))) (ho : o9 = B + j) (hi : ¬ (z < 0 ∨ m ≤ z.toNatClampNeg)) (hp : pc + 1 = pc') (K : g_ok MT xs L q pc' ls st (h0 ++ t.set j (.inl (.byte, m, .inl (upd f z.toNatClampNeg (vp_nar .byte x))))) c n w) : g_ok MT xs L q pc ls (.int x :: .int z :: .ref o9 :: st) (h0 ++ t) c n w := by
  subst hp
  refine s_stp ?_ K
  unfold a_1
  rw [hat]
  simp only [a_ins, a_wr, r_at hB hg ho]
  rw [if_pos hi, if_neg (by decide), if_pos (by decide), r_set hB ho]
  rfl
theorem s_dig {g : Nat} (hat : a_at (m_is q) pc = some (.baload, len, a, b)) (hg : g < 2) (hi : ¬ (z < 0 ∨ 100 ≤ z.toNatClampNeg)) (hp : pc + 1 = pc') (K : g_ok MT xs L q pc' ls (.int (a_dig g z.toNatClampNeg) :: st) h c n w) : g_ok MT xs L q pc ls (.int z :: .ref (a_big + 500 + g) :: st) h c n w := by
  subst hp
  refine s_stp ?_ K
  unfold a_1
  rw [hat]
  simp only [a_ins, a_rd, if_neg (show ¬ a_big + 500 + g = a_big by omega)]
  rw [if_pos (by omega), if_pos ⟨trivial, hi⟩, show a_big + 500 + g - a_big - 500 = g by omega]
  rfl
theorem s_jdk {i9 w9 : Nat} {i : Instr} (hat : a_at (m_is q) pc = some (i, len, 1000 + w9, b)) (hi : i = .invokevirtual i9 ∨ i = .invokestatic i9 ∨ i = .invokespecial i9) (hb : a_bi xs w9 st h = some (r, h')) (hp : pc + 3 = pc') (K : g_ok MT xs L q pc' ls r h' c n w) : g_ok MT xs L q pc ls st h c n w := by
  subst hp
  refine s_stp ?_ K
  unfold a_1
  rw [hat]
  have e9 : 1000 + w9 - 1000 = w9 := by omega
  rcases hi with rfl | rfl | rfl <;> simp only [if_pos (show 1000 ≤ 1000 + w9 by omega), e9, hb, Option.map_some]
end A26g
