/-! StringBuilder: append and the constructor, as what they do to the letters. -/
section A31c
variable {xs : Nat → Int32} {L B : Nat} {h0 t : a_H}
/-- how large an array there can be, and how many cells there are by then -/
def sb_sz (m l : Nat) : Prop := (m = 24 ∧ l = 2) ∨ (m = 50 ∧ l = 3) ∨ (m = 102 ∧ l = 4)
/-- a StringBuilder at the head of t, with the letters tx -/
def sbS (B : Nat) (t : a_H) (tx : List Int32) : Prop := ∃ (j m : Nat) (f : Nat → Int32), t[0]? = some (sb_ob B j tx.length) ∧ t[j]? = some (sb_ar m f) ∧ 0 < j ∧ sb_sz m t.length ∧ tx.length ≤ m ∧ (∀ i, i < tx.length → f i = tx.getD i 0) ∧ (∀ i, fits .byte (.int (f i)) = true)
set_option maxHeartbeats 4000000 in
theorem sb_ens {j n m q : Nat} {f : Nat → Int32} (hB : h0.length = B) (hb : B + 10 < a_big) (hj : 0 < j) (hs : sb_sz m t.length) (hq : q ≤ m + 9 ∧ q ≤ 102) (hg : t[0]? = some (sb_ob B j n)) (hgj : t[j]? = some (sb_ar m f)) (hf : ∀ i, fits .byte (.int (f i)) = true) :
    ∃ (t' : a_H) (j' m' : Nat) (f' : Nat → Int32), f_run a_MT xs L 142 [.ref B, .int (nI q)] (h0 ++ t) (.inl none, h0 ++ t') ∧ t'[0]? = some (sb_ob B j' n) ∧ t'[j']? = some (sb_ar m' f') ∧ 0 < j' ∧ sb_sz m' t'.length ∧ q ≤ m' ∧ (∀ i, i < m → f' i = f i) ∧ (∀ i, fits .byte (.int (f' i)) = true) := by
  have hjl : j < t.length := (List.getElem?_eq_some_iff.mp hgj).1
  have hs' := hs
  unfold sb_sz at hs
  by_cases h : q ≤ m
  · exact ⟨t, j, m, f, sb_ens0 hB hb (by omega) (by omega) h hg hgj, hg, hgj, hj, hs', h, fun _ _ => rfl, hf⟩
  · refine ⟨_, t.length, 2 * m + 2, va_cpy f (fun _ => 0) 0 0 m, sb_ens1 hB hb ⟨hj, hjl, by omega⟩ (by omega) ⟨by omega, by omega⟩ hg hgj hf, ?_, ?_, by omega, ?_, by omega, fun i hi => ?_, fun i => ?_⟩
    · rw [List.getElem?_set_self (by rw [List.length_append]; omega)]
    · rw [List.getElem?_set_ne (by omega), List.getElem?_append_right (Nat.le_refl _), Nat.sub_self]; rfl
    · unfold sb_sz
      rw [List.length_set, List.length_append]
      show (2 * m + 2 = 24 ∧ t.length + 1 = 2) ∨ (2 * m + 2 = 50 ∧ t.length + 1 = 3) ∨ (2 * m + 2 = 102 ∧ t.length + 1 = 4)
      omega
    · rw [pk_cpy_in (Nat.zero_le _) (by omega)]; congr 1; omega
    · unfold va_cpy
      split
      · exact hf _
      · rfl
set_option maxHeartbeats 4000000 in
theorem sb_cod {r : List Value} {h : a_H} {i : Nat} (hr : a_sum r ≤ 8) (hi : i < 7) : a_bi xs 6 (.ref (a_big + 1 + i) :: r) h = some (.int 0 :: r, h) := by
  show (if a_sum r ≤ 8 ∧ a_big + 1 ≤ a_big + 1 + i ∧ a_big + 1 + i < a_big + 1 + a_tn xs then some (Value.int 0 :: r, h) else none) = _
  have := a_tn_7 xs
  rw [if_pos ⟨hr, by omega, by omega⟩]
set_option maxHeartbeats 4000000 in
theorem sb_len {r : List Value} {h : a_H} {i : Nat} (hr : a_sum r ≤ 8) (hi : i < 7) : a_bi xs 4 (.ref (a_big + 1 + i) :: r) h = some (.int (nI (a_slC.getD i 0)) :: r, h) := by
  show (if a_sum r ≤ 8 ∧ a_big + 1 ≤ a_big + 1 + i ∧ a_big + 1 + i < a_big + 1 + a_tn xs then some (Value.int (nI ((a_sl xs).getD (a_big + 1 + i - (a_big + 1)) 0)) :: r, h) else none) = _
  have := a_tn_7 xs
  rw [if_pos ⟨hr, by omega, by omega⟩, show a_big + 1 + i - (a_big + 1) = i by omega, a_sl_lo xs hi]
set_option maxHeartbeats 4000000 in
theorem sb_gb {j n m i w : Nat} {g : Nat → Int32} (hB : h0.length = B) (hi : i < 7) (hw : a_slC.getD i 0 = w) (hn : n + w ≤ m ∧ m < 1000) (hg : t[j]? = some (sb_ar m g)) : a_bi xs 7 [.int 0, .int (nI n), .ref (B + j), .ref (a_big + 1 + i)] (h0 ++ t) = some ([], h0 ++ t.set j (sb_ar m (va_cpy (a_gbf xs i) g 0 n w))) := by
  have hc : (0 : Int32) = 0 ∧ a_sum ([] : List Value) ≤ 8 ∧ a_big + 1 ≤ a_big + 1 + i ∧ a_big + 1 + i < a_big + 1 + 7 ∧ ¬ nI n < 0 := ⟨rfl, Nat.le_of_ble_eq_true rfl, by omega, by omega, n_neg (by omega)⟩
  unfold a_bi a_b7
  dsimp only
  rw [if_pos hc, r_at hB hg rfl]
  dsimp only
  rw [n_clamp (by omega), show a_big + 1 + i - (a_big + 1) = i by omega, a_sl_lo xs hi, hw, if_pos hn.1, r_set hB rfl]
  rfl
set_option maxHeartbeats 4000000 in
theorem sb_infl {j n i : Nat} (hB : h0.length = B) (hi : i < 7) (hg : t[0]? = some (sb_ob B j n)) : f_run a_MT xs L 147 [.ref B, .ref (a_big + 1 + i)] (h0 ++ t) (.inl none, h0 ++ t) := by
  refine r_of (q := md_210) MT_147 (Nat.le_of_ble_eq_true rfl) rfl ?_
  refine r_gets (v := .int 1) rfl rfl rfl ?_
  refine r_if (bb := false) rfl (rfl) ⟨by decide, rfl⟩ ?_
  refine r_aload_n rfl rfl rfl ?_
  refine r_get (v := .int 0) hB rfl hg rfl rfl rfl ?_
  refine r_aload_n rfl rfl rfl ?_
  refine r_jdk (i9 := 40) (w9 := 6) (r := [.int 0, .int 0]) rfl (Or.inl rfl) (sb_cod (Nat.le_of_ble_eq_true rfl) hi) rfl ?_
  refine r_icmp (pc' := 21) (bb := true) rfl (rfl) ⟨by decide, rfl⟩ ?_
  exact r_vret rfl rfl rfl
set_option maxHeartbeats 4000000 in
theorem sb_put {j n m i w : Nat} {g : Nat → Int32} (hB : h0.length = B) (hi : i < 7) (hw : a_slC.getD i 0 = w) (hn : n + w ≤ m ∧ m < 1000) (hg : t[0]? = some (sb_ob B j n)) (hgj : t[j]? = some (sb_ar m g)) : f_run a_MT xs L 146 [.ref B, .int (nI n), .ref (a_big + 1 + i)] (h0 ++ t) (.inl none, h0 ++ t.set j (sb_ar m (va_cpy (a_gbf xs i) g 0 n w))) := by
  refine r_of (q := md_209) MT_146 (Nat.le_of_ble_eq_true rfl) rfl ?_
  refine r_aload_n rfl rfl rfl ?_
  refine r_aload_n rfl rfl rfl ?_
  refine r_kall (v9 := none) (r_kv (na := 2) rfl (by decide) MT_147 ⟨rfl, by decide⟩ ⟨Nat.le_of_ble_eq_true rfl, rfl, rfl, (sb_isc hB hg)⟩ ⟨Nat.le_of_ble_eq_true rfl, Nat.le_of_ble_eq_true rfl, Nat.le_of_ble_eq_true rfl⟩) MT_147 (sb_infl hB hi hg) ⟨rfl, rfl, rfl, rfl⟩ ?_
  refine r_aload_n rfl rfl rfl ?_
  refine r_aload_n rfl rfl rfl ?_
  refine r_get (v := .ref (B + j)) hB rfl hg rfl rfl rfl ?_
  refine r_iload_n rfl rfl rfl ?_
  refine r_aload_n rfl rfl rfl ?_
  refine r_get (v := .int 0) hB rfl hg rfl rfl rfl ?_
  refine r_jdk (i9 := 399) (w9 := 7) (r := []) rfl (Or.inl rfl) (sb_gb hB hi hw hn hgj) rfl ?_
  exact r_vret rfl rfl rfl
set_option maxHeartbeats 4000000 in
theorem sb_appS {i w : Nat} {tx : List Int32} (hB : h0.length = B) (hb : B + 10 < a_big) (hi : i < 7) (hw : a_slC.getD i 0 = w ∧ (a_sbC.getD i []).length = w) (hw9 : w ≤ 9) (hl : tx.length + w ≤ 102) (hS : sbS B t tx) : ∃ t', f_run a_MT xs L 141 [.ref B, .ref (a_big + 1 + i)] (h0 ++ t) (.inl (some (.ref B)), h0 ++ t') ∧ sbS B t' (tx ++ a_sbC.getD i []) := by
  obtain ⟨j, m, f, hg, hgj, hj, hs, hn, hf, hfit⟩ := hS
  obtain ⟨t1, j1, m1, f1, hr, hg1, hgj1, hj1, hs1, hq1, hf1, hfit1⟩ := sb_ens (xs := xs) (L := L) (q := tx.length + w) hB hb hj hs ⟨by omega, hl⟩ hg hgj hfit
  have hm1 : m1 < 1000 := by unfold sb_sz at hs1; omega
  have hjl1 : j1 < t1.length := (List.getElem?_eq_some_iff.mp hgj1).1
  have hp := sb_put (xs := xs) (L := L) hB hi hw.1 ⟨hq1, hm1⟩ hg1 hgj1
  have hg2 : (t1.set j1 (sb_ar m1 (va_cpy (a_gbf xs i) f1 0 tx.length w)))[0]? = some (sb_ob B j1 tx.length) := by rw [List.getElem?_set_ne (by omega)]; exact hg1
  refine ⟨(t1.set j1 (sb_ar m1 (va_cpy (a_gbf xs i) f1 0 tx.length w))).set 0 (sb_ob B j1 (tx.length + w)), ?_, ?_⟩
  · refine r_of (q := md_204) MT_141 (Nat.le_of_ble_eq_true rfl) rfl ?_
    refine r_aload_n rfl rfl rfl ?_
    refine r_nonnull (pc' := 9) rfl ⟨by decide, rfl⟩ ?_
    refine r_aload_n rfl rfl rfl ?_
    refine r_jdk (i9 := 32) (w9 := 4) (r := [.int (nI w)]) rfl (Or.inl rfl) (by rw [← hw.1]; exact sb_len (Nat.le_of_ble_eq_true rfl) hi) rfl ?_
    refine r_istore_n rfl (Nat.le_of_ble_eq_true rfl) rfl rfl ?_
    refine r_aload_n rfl rfl rfl ?_
    refine r_aload_n rfl rfl rfl ?_
    refine r_get (v := .int (nI tx.length)) hB rfl hg rfl rfl rfl ?_
    refine r_iload_n rfl rfl rfl ?_
    refine r_bin (v := nI (tx.length + w)) rfl (Or.inl ⟨rfl, n_add _ _⟩) rfl ?_
    refine r_kall (v9 := none) (r_kv (na := 2) rfl (by decide) MT_142 ⟨rfl, by decide⟩ ⟨Nat.le_of_ble_eq_true rfl, rfl, rfl, (sb_isc hB hg)⟩ ⟨Nat.le_of_ble_eq_true rfl, Nat.le_of_ble_eq_true rfl, Nat.le_of_ble_eq_true rfl⟩) MT_142 hr ⟨rfl, rfl, rfl, rfl⟩ ?_
    refine r_aload_n rfl rfl rfl ?_
    refine r_aload_n rfl rfl rfl ?_
    refine r_get (v := .int (nI tx.length)) hB rfl hg1 rfl rfl rfl ?_
    refine r_aload_n rfl rfl rfl ?_
    refine r_kall (v9 := none) (r_kv (na := 3) rfl (by decide) MT_146 ⟨rfl, by decide⟩ ⟨Nat.le_of_ble_eq_true rfl, rfl, rfl, (sb_isc hB hg1)⟩ ⟨Nat.le_of_ble_eq_true rfl, Nat.le_of_ble_eq_true rfl, Nat.le_of_ble_eq_true rfl⟩) MT_146 hp ⟨rfl, rfl, rfl, rfl⟩ ?_
    refine r_aload_n rfl rfl rfl ?_
    refine r_dup rfl rfl rfl ?_
    refine r_get (v := .int (nI tx.length)) hB rfl hg2 rfl rfl rfl ?_
    refine r_iload_n rfl rfl rfl ?_
    refine r_bin (v := nI (tx.length + w)) rfl (Or.inl ⟨rfl, n_add _ _⟩) rfl ?_
    refine r_put hB rfl hg2 rfl ⟨Nat.le_of_ble_eq_true rfl, rfl, rfl⟩ rfl ?_
    refine r_aload_n rfl rfl rfl ?_
    exact r_aret rfl rfl rfl
  · refine ⟨j1, m1, va_cpy (a_gbf xs i) f1 0 tx.length w, ?_, ?_, hj1, ?_, ?_, fun k hk => ?_, fun k => ?_⟩
    · rw [List.getElem?_set_self (by rw [List.length_set]; omega), List.length_append, hw.2]
    · rw [List.getElem?_set_ne (by omega), List.getElem?_set_self hjl1]
    · rw [List.length_set, List.length_set]; exact hs1
    · rw [List.length_append, hw.2]; exact hq1
    · rw [List.length_append, hw.2] at hk
      by_cases h : k < tx.length
      · rw [pk_cpy_out (by omega), hf1 k (by omega), hf k h, List.getD_eq_getElem?_getD, List.getD_eq_getElem?_getD, List.getElem?_append_left h]
      · rw [pk_cpy_in (by omega) hk]
        unfold a_gbf
        rw [a_sb_lo xs hi, List.getD_eq_getElem?_getD, List.getD_eq_getElem?_getD (l := tx ++ _), List.getElem?_append_right (by omega), Nat.zero_add]
    · unfold va_cpy
      split
      · exact a_gbfit xs hi _
      · exact hfit1 _
set_option maxHeartbeats 4000000 in
theorem sb_S {i w : Nat} {tx : List Int32} (hB : h0.length = B) (hb : B + 10 < a_big) (hi : i < 7) (hw : a_slC.getD i 0 = w ∧ (a_sbC.getD i []).length = w) (hw9 : w ≤ 9) (hl : tx.length + w ≤ 102) (hS : sbS B t tx) : ∃ t', f_run a_MT xs L 140 [.ref B, .ref (a_big + 1 + i)] (h0 ++ t) (.inl (some (.ref B)), h0 ++ t') ∧ sbS B t' (tx ++ a_sbC.getD i []) := by
  obtain ⟨t', hr, hS'⟩ := sb_appS (xs := xs) (L := L) hB hb hi hw hw9 hl hS
  obtain ⟨j, m, f, hg, -⟩ := hS
  refine ⟨t', ?_, hS'⟩
  refine r_of (q := md_203) MT_140 (Nat.le_of_ble_eq_true rfl) rfl ?_
  refine r_aload_n rfl rfl rfl ?_
  refine r_aload_n rfl rfl rfl ?_
  refine r_kall (v9 := some (.ref B)) (r_kp (na := 2) rfl (by decide) MT_141 ⟨rfl, by decide⟩ ⟨Nat.le_of_ble_eq_true rfl, rfl, rfl, (sb_isc hB hg)⟩ ⟨Nat.le_of_ble_eq_true rfl, Nat.le_of_ble_eq_true rfl, Nat.le_of_ble_eq_true rfl⟩) MT_141 hr ⟨rfl, rfl, rfl, rfl⟩ ?_
  refine r_pop rfl rfl rfl ?_
  refine r_aload_n rfl rfl rfl ?_
  exact r_aret rfl rfl rfl
set_option maxHeartbeats 4000000 in
theorem sb_BR {i w : Nat} {tx : List Int32} (hB : h0.length = B) (hb : B + 10 < a_big) (hi : i < 7) (hw : a_slC.getD i 0 = w ∧ (a_sbC.getD i []).length = w) (hw9 : w ≤ 9) (hl : tx.length + w ≤ 102) (hS : sbS B t tx) : ∃ t', f_run a_MT xs L 139 [.ref B, .ref (a_big + 1 + i)] (h0 ++ t) (.inl (some (.ref B)), h0 ++ t') ∧ sbS B t' (tx ++ a_sbC.getD i []) := by
  obtain ⟨t', hr, hS'⟩ := sb_S (xs := xs) (L := L) hB hb hi hw hw9 hl hS
  obtain ⟨j, m, f, hg, -⟩ := hS
  refine ⟨t', ?_, hS'⟩
  refine r_of (q := md_202) MT_139 (Nat.le_of_ble_eq_true rfl) rfl ?_
  refine r_aload_n rfl rfl rfl ?_
  refine r_aload_n rfl rfl rfl ?_
  refine r_kall (v9 := some (.ref B)) (r_kv (na := 2) rfl (by decide) MT_140 ⟨rfl, by decide⟩ ⟨Nat.le_of_ble_eq_true rfl, rfl, rfl, (sb_isc hB hg)⟩ ⟨Nat.le_of_ble_eq_true rfl, Nat.le_of_ble_eq_true rfl, Nat.le_of_ble_eq_true rfl⟩) MT_140 hr ⟨rfl, rfl, rfl, rfl⟩ ?_
  exact r_aret rfl rfl rfl
set_option maxHeartbeats 4000000 in
theorem sb_lat {j n : Nat} (hB : h0.length = B) (hg : t[0]? = some (sb_ob B j n)) : f_run a_MT xs L 150 [.ref B] (h0 ++ t) (.inl (some (.int 1)), h0 ++ t) := by
  refine r_of (q := md_213) MT_150 (Nat.le_of_ble_eq_true rfl) rfl ?_
  refine r_gets (v := .int 1) rfl rfl rfl ?_
  refine r_if (bb := false) rfl (rfl) ⟨by decide, rfl⟩ ?_
  refine r_aload_n rfl rfl rfl ?_
  refine r_get (v := .int 0) hB rfl hg rfl rfl rfl ?_
  refine r_if (bb := false) rfl (rfl) ⟨by decide, rfl⟩ ?_
  refine r_iconst (v := 1) rfl rfl rfl ?_
  refine r_goto (pc' := 18) rfl ⟨by decide, rfl⟩ ?_
  exact r_iret rfl rfl rfl rfl
set_option maxHeartbeats 4000000 in
theorem sb_enc {c : Nat} {h : a_H} (hc : c < 128) : f_run a_MT xs L 151 [.int (nI c)] h (.inl (some (.int 1)), h) := by
  refine r_of (q := md_214) MT_151 (Nat.le_of_ble_eq_true rfl) rfl ?_
  refine r_iload_n rfl rfl rfl ?_
  refine r_sipush (v := nI 255) rfl rfl rfl ?_
  refine r_icmp (bb := false) rfl (decide_eq_false (fun z => by have := (n_lt (a := 255) (b := c) (by omega) (by omega)).mp z; omega)) ⟨by decide, rfl⟩ ?_
  refine r_iconst (v := 1) rfl rfl rfl ?_
  refine r_goto (pc' := 12) rfl ⟨by decide, rfl⟩ ?_
  exact r_iret rfl rfl rfl rfl
set_option maxHeartbeats 4000000 in
theorem sb_chr : ∀ c, c < 128 → vp_nar .byte ((nI c).toInt8.toInt32) = nI c ∧ fits .byte (.int (nI c)) = true := by decide +kernel
set_option maxHeartbeats 4000000 in
theorem sb_appC {c : Nat} {tx : List Int32} (hB : h0.length = B) (hb : B + 10 < a_big) (hc : c < 128) (hl : tx.length + 1 ≤ 102) (hS : sbS B t tx) : ∃ t', f_run a_MT xs L 149 [.ref B, .int (nI c)] (h0 ++ t) (.inl (some (.ref B)), h0 ++ t') ∧ sbS B t' (tx ++ [nI c]) := by
  obtain ⟨j, m, f, hg, hgj, hj, hs, hn, hf, hfit⟩ := hS
  obtain ⟨t1, j1, m1, f1, hr, hg1, hgj1, hj1, hs1, hq1, hf1, hfit1⟩ := sb_ens (xs := xs) (L := L) (q := tx.length + 1) hB hb hj hs ⟨by omega, hl⟩ hg hgj hfit
  have hm1 : m1 < 1000 := by unfold sb_sz at hs1; omega
  have hjl1 : j1 < t1.length := (List.getElem?_eq_some_iff.mp hgj1).1
  have hgj2 : (t1.set 0 (sb_ob B j1 (tx.length + 1)))[j1]? = some (sb_ar m1 f1) := by rw [List.getElem?_set_ne (by omega)]; exact hgj1
  have ec : (nI tx.length).toNatClampNeg = tx.length := n_clamp (by omega)
  refine ⟨(t1.set 0 (sb_ob B j1 (tx.length + 1))).set j1 (sb_ar m1 (upd f1 (nI tx.length).toNatClampNeg (vp_nar .byte ((nI c).toInt8.toInt32)))), ?_, ?_⟩
  · refine r_of (q := md_212) MT_149 (Nat.le_of_ble_eq_true rfl) rfl ?_
    refine r_aload_n rfl rfl rfl ?_
    refine r_aload_n rfl rfl rfl ?_
    refine r_get (v := .int (nI tx.length)) hB rfl hg rfl rfl rfl ?_
    refine r_iconst (v := 1) rfl rfl rfl ?_
    refine r_bin (v := nI (tx.length + 1)) rfl (Or.inl ⟨rfl, n_add _ 1⟩) rfl ?_
    refine r_kall (v9 := none) (r_kv (na := 2) rfl (by decide) MT_142 ⟨rfl, by decide⟩ ⟨Nat.le_of_ble_eq_true rfl, rfl, rfl, (sb_isc hB hg)⟩ ⟨Nat.le_of_ble_eq_true rfl, Nat.le_of_ble_eq_true rfl, Nat.le_of_ble_eq_true rfl⟩) MT_142 hr ⟨rfl, rfl, rfl, rfl⟩ ?_
    refine r_aload_n rfl rfl rfl ?_
    refine r_kall (v9 := some (.int 1)) (r_kv (na := 1) rfl (by decide) MT_150 ⟨rfl, by decide⟩ ⟨Nat.le_of_ble_eq_true rfl, rfl, rfl, (sb_isc hB hg1)⟩ ⟨Nat.le_of_ble_eq_true rfl, Nat.le_of_ble_eq_true rfl, Nat.le_of_ble_eq_true rfl⟩) MT_150 (sb_lat hB hg1) ⟨rfl, rfl, rfl, rfl⟩ ?_
    refine r_if (bb := false) rfl (rfl) ⟨by decide, rfl⟩ ?_
    refine r_iload_n rfl rfl rfl ?_
    refine r_kall (v9 := some (.int 1)) (r_ks (na := 1) rfl (by decide) MT_151 rfl ⟨Nat.le_of_ble_eq_true rfl, rfl, rfl⟩ ⟨Nat.le_of_ble_eq_true rfl, Nat.le_of_ble_eq_true rfl, Nat.le_of_ble_eq_true rfl⟩) MT_151 (sb_enc hc) ⟨rfl, rfl, rfl, rfl⟩ ?_
    refine r_if (bb := false) rfl (rfl) ⟨by decide, rfl⟩ ?_
    refine r_aload_n rfl rfl rfl ?_
    refine r_get (v := .ref (B + j1)) hB rfl hg1 rfl rfl rfl ?_
    refine r_aload_n rfl rfl rfl ?_
    refine r_dup rfl rfl rfl ?_
    refine r_get (v := .int (nI tx.length)) hB rfl hg1 rfl rfl rfl ?_
    refine r_dup_x1 rfl ⟨rfl, rfl⟩ rfl ?_
    refine r_iconst (v := 1) rfl rfl rfl ?_
    refine r_bin (v := nI (tx.length + 1)) rfl (Or.inl ⟨rfl, n_add _ 1⟩) rfl ?_
    refine r_put hB rfl hg1 rfl ⟨Nat.le_of_ble_eq_true rfl, rfl, rfl⟩ rfl ?_
    refine r_iload_n rfl rfl rfl ?_
    refine r_una (v := (nI c).toInt8.toInt32) rfl (Or.inr (Or.inl ⟨rfl, rfl⟩)) rfl ?_
    refine r_bast hB rfl hgj2 rfl (by rw [ec]; exact fun z => z.elim (n_neg (by omega)) (by omega)) rfl ?_
    refine r_goto (pc' := 75) rfl ⟨by decide, rfl⟩ ?_
    refine r_aload_n rfl rfl rfl ?_
    exact r_aret rfl rfl rfl
  · rw [ec, (sb_chr c hc).1]
    refine ⟨j1, m1, upd f1 tx.length (nI c), ?_, ?_, hj1, ?_, ?_, fun k hk => ?_, fun k => ?_⟩
    · rw [List.getElem?_set_ne (by omega), List.getElem?_set_self (by omega), List.length_append]; rfl
    · rw [List.getElem?_set_self (by rw [List.length_set]; exact hjl1)]
    · rw [List.length_set, List.length_set]; exact hs1
    · rw [List.length_append]; exact hq1
    · rw [List.length_append] at hk
      have hk : k < tx.length + 1 := hk
      unfold upd
      by_cases h : k = tx.length
      · rw [if_pos h, List.getD_eq_getElem?_getD, List.getElem?_append_right (by omega), h, Nat.sub_self]; rfl
      · rw [if_neg h, hf1 k (by omega), hf k (by omega), List.getD_eq_getElem?_getD, List.getD_eq_getElem?_getD, List.getElem?_append_left (by omega)]
    · unfold upd
      split
      · exact (sb_chr c hc).2
      · exact hfit1 _
set_option maxHeartbeats 4000000 in
theorem sb_C {c : Nat} {tx : List Int32} (hB : h0.length = B) (hb : B + 10 < a_big) (hc : c < 128) (hl : tx.length + 1 ≤ 102) (hS : sbS B t tx) : ∃ t', f_run a_MT xs L 148 [.ref B, .int (nI c)] (h0 ++ t) (.inl (some (.ref B)), h0 ++ t') ∧ sbS B t' (tx ++ [nI c]) := by
  obtain ⟨t', hr, hS'⟩ := sb_appC (xs := xs) (L := L) hB hb hc hl hS
  obtain ⟨j, m, f, hg, -⟩ := hS
  refine ⟨t', ?_, hS'⟩
  refine r_of (q := md_211) MT_148 (Nat.le_of_ble_eq_true rfl) rfl ?_
  refine r_aload_n rfl rfl rfl ?_
  refine r_iload_n rfl rfl rfl ?_
  refine r_kall (v9 := some (.ref B)) (r_kp (na := 2) rfl (by decide) MT_149 ⟨rfl, by decide⟩ ⟨Nat.le_of_ble_eq_true rfl, rfl, rfl, (sb_isc hB hg)⟩ ⟨Nat.le_of_ble_eq_true rfl, Nat.le_of_ble_eq_true rfl, Nat.le_of_ble_eq_true rfl⟩) MT_149 hr ⟨rfl, rfl, rfl, rfl⟩ ?_
  refine r_pop rfl rfl rfl ?_
  refine r_aload_n rfl rfl rfl ?_
  exact r_aret rfl rfl rfl
end A31c
