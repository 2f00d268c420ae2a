/-! The law passes an hour: an assessor, the payments, the whole. -/
theorem L_ass1 {σ : f_M} {s : Nat → Int32} {D ck hc ac pc cc q n x : Nat} {g : Nat → Nat} (K : kAll s D ck hc ac pc cc g q n) (hx : x < ac) (R : LR σ s hc ac pc cc g q n) :
    ∃ (σ' : f_M) (g' : Nat → Nat) (n' : Nat), b_ass (nI x) σ = some (.inl (nI (x + 1), σ')) ∧ kAll (s_assess s x) D ck hc ac pc cc g' q n' ∧ LR σ' (s_assess s x) hc ac pc cc g' q n' ∧ ∀ r, r < 155 → σ' r = σ r := by
  obtain ⟨kc, kp, kk, kg, kd, kr, ku, km, ks, kw⟩ := id K
  obtain ⟨⟨c0, c0'⟩, ⟨c2, c2', c2''⟩, ⟨c3, c3', c3''⟩, ⟨c4, c4'⟩, ⟨c5, c5'⟩⟩ := id kc
  obtain ⟨⟨⟨a1, a2, a3, a4⟩, a5, b1, b2, b3, b4, a6, a7⟩, r2, r3, r4, r5, r6, r7, r8, r9⟩ := id R
  obtain ⟨d1, d2, d3⟩ := r8 x hx
  have he := s_assess_eq (s := s) (x := x) c5 c5'
  have hN : s_rk s x cc ≤ 20 := Nat.le_trans (cntN_le _ _) c5'
  have z0 : (0 : Int32) = nI 0 := rfl
  have z1 : (1 : Int32) = nI 1 := rfl
  have z2 : (2 : Int32) = nI 2 := rfl
  have z5 : (5 : Int32) = nI 5 := rfl
  have z100 : (100 : Int32) = nI 100 := rfl
  unfold b_ass
  rw [if_neg (show ¬ σ 155 23 ≤ nI x by rw [a2, n_le (by omega) (by omega)]; omega), f_rd_n (by omega) (by decide), bnd, d1, z0, z1, z2, z5, z100, n_add x 1]
  by_cases h0 : s_rk s x cc = 0
  · rw [if_neg (rk_zero c5 c5' h0)] at he
    rw [h0, if_neg (by decide), bnd, he]
    exact ⟨σ, g, n, rfl, K, R, fun _ _ => rfl⟩
  · obtain ⟨h, hu, hk0, hlt⟩ := rk_first c5 c5' h0
    obtain ⟨hu3, hu1⟩ := s_fst_und c5 c5' h
    rw [if_pos h] at he
    generalize s_fst s (nI x) = k at h hu hk0 hlt hu3 hu1 he
    obtain ⟨k0, k1, k2, k3, k4, k5, k6, k7, k8⟩ := kk k h
    obtain ⟨p, hp, ep⟩ := k0
    obtain ⟨w, hw, ew⟩ := k2
    obtain ⟨st, hst9, est⟩ := ks.1 x hx
    have hwst : w ≤ 1 + st := by
      have := k6 hu3
      rw [ew, hu1, nat_n (by omega), nat_n (by omega), est, nat_n (by omega)] at this
      exact this
    rw [ew, est, n_add, n_add] at he
    obtain ⟨e1, e2⟩ := d2 k h hu
    rw [hk0, if_pos rfl] at e2
    rw [hk0] at e1
    have e9 : σ 179 x = nI w := e2.symm.trans ew
    have e8 : σ 158 x = nI st := (r3 x hx).trans est
    rw [if_pos (by rw [n_eq (by omega) (by omega)]; exact h0), f_rd_n (by omega) (by decide), bnd, e9, n_add w 1, f_wr_n (by omega) (by decide), bnd, f_rd_n (by omega) (by decide), bnd, up_same, f_rd_n (by omega) (by decide), bnd, up_rows (show 158 ≠ 179 by decide), e8, n_add 2 st]
    by_cases hlast : w + 1 = 2 + st
    · rw [if_pos (by rw [hlast])] at he
      rw [if_pos (by rw [n_le (by omega) (by omega)]; omega)]
      obtain ⟨dm, hdm, edm⟩ := damage_n c0 c0' (kp p hp) kw
      obtain ⟨hg1, hg2⟩ := granted_n hdm hst9
      obtain ⟨f, f10, f2, f5, f4, f3⟩ := dec_facts (v := nI (w + 1)) (k := k) (by omega) (by omega) ep hu1 (by omega) edm hdm est hst9
      have KD := K_dec (w := w + 1) K h hu3 (by omega) hg2 f f10 f2 f5 f4 f3
      rw [← he] at KD f f10 f2 f5 f4 f3
      have hn20 : (if dm - dm * 5 * st / 100 = 0 then n else n + 1) ≤ 20 := by rw [KD.2.2.2.1.2.1]; exact Nat.le_trans (cntN_le _ _) c5'
      have hqn := kg.1
      have eam : nI dm - nI 5 * nI st * nI dm / nI 100 = nI (dm - dm * 5 * st / 100) := by
        rw [← hg1, n_mul, n_mul, n_mul, n_mul, show 5 * st * dm = dm * 5 * st by rw [Nat.mul_comm (5 * st) dm, Nat.mul_assoc]]
      generalize dm - dm * 5 * st / 100 = am at *
      -- the desk
      have ez : f_up σ 179 x (nI (w + 1)) (175 + x) 0 = nI k := by rw [up_rows (by omega)]; exact e1
      obtain ⟨x52, t1, t2, t3⟩ := L_shf (σ := f_up (f_up (f_up σ 179 x (nI (w + 1))) 179 x (nI 0)) 178 x (nI (s_rk s x cc - 1))) (x := x) (N := s_rk s x cc - 1) (by omega) (by omega) (up_same _ _ _ _)
      have o : ∀ r, r ≠ 175 + x → r ≠ 178 → r ≠ 179 → x52 r = σ r := fun r h1 h2 h3 => by rw [t3 r h1, up_rows h2, up_rows h3, up_rows h3]
      have t2' : ∀ i, i < s_rk s x cc - 1 → x52 (175 + x) i = σ (175 + x) (i + 1) := fun i hi => by rw [t2 i hi, up_rows (by omega), up_rows (by omega), up_rows (by omega)]
      have t8 : x52 178 x = nI (s_rk s x cc - 1) := by rw [t3 _ (by omega), up_same]
      have t8' : ∀ y, y ≠ x → x52 178 y = σ 178 y := fun y hy => by rw [t3 _ (by omega), up_ix hy, up_rows (by decide), up_rows (by decide)]
      have t9 : x52 179 x = nI 0 := by rw [t3 _ (by omega), up_rows (by decide), up_same]
      have t9' : ∀ y, y ≠ x → x52 179 y = σ 179 y := fun y hy => by rw [t3 _ (by omega), up_rows (by decide), up_ix hy, up_ix hy]
      have hd : l_damage (nI p) x52 = some (nI dm) := by
        rw [← edm]
        exact L_dmg (by omega) c0 c0' (kp p hp) kw (lP_congr (fun r h1 h2 _ => by rw [o r (by omega) (by omega) (by omega)]) (fun i hi => rfl) (r4 p hp).1) (by rw [o _ (by omega) (by omega) (by omega)]; exact (r4 p hp).2)
      have y170 : x52 170 k = nI p := by rw [o _ (by omega) (by omega) (by omega), (r6 k h).1]; exact ep
      have y158 : x52 158 x = nI st := by rw [o _ (by omega) (by omega) (by omega), e8]
      rw [f_ix_n (by omega) (by decide), bnd, f_rd_n (by omega) (by decide), bnd, ez, f_wr_n (by omega) (by decide), bnd, f_rd_n (by omega) (by decide), bnd, up_rows (show 178 ≠ 179 by decide), up_rows (show 178 ≠ 179 by decide), d1, n_sub (by omega), f_wr_n (by omega) (by decide), bnd]
      rw [show f_lp (fun z => b_shf (nI x) z.1 z.2) f_F (nI 0, f_up (f_up (f_up σ 179 x (nI (w + 1))) 179 x (nI 0)) 178 x (nI (s_rk s x cc - 1))) = some x52 from t1, bnd, f_rd_n (by omega) (by decide), bnd, y170, hd, bnd, f_rd_n (by omega) (by decide), bnd, y158, eam, f_wr_n (by omega) (by decide), bnd, f_rd_n (by omega) (by decide), bnd, up_same]
      have est' : (if nI am ≤ nI 0 then some (nI 1) else some (nI 2)) = some (if am = 0 then nI 1 else nI 2) := by
        by_cases ha : am = 0
        · rw [if_pos ha, if_pos (by rw [ha]; decide)]
        · rw [if_neg ha, if_neg (by rw [n_le (by omega) (by omega)]; omega)]
      rw [est', bnd, f_wr_n (by omega) (by decide), bnd, f_rd_n (by omega) (by decide), bnd, up_rows (show 172 ≠ 155 by decide), up_same]
      have y155 : ∀ i, f_up (f_up x52 173 k (nI am)) 172 k (if am = 0 then nI 1 else nI 2) 155 i = σ 155 i := fun i => by rw [up_rows (by decide), up_rows (by decide), o _ (by omega) (by omega) (by omega)]
      rw [y155 32, a7]
      have fin : ∀ σ', (∀ r, r ≠ 155 → r ≠ 180 → σ' r = f_up (f_up x52 173 k (nI am)) 172 k (if am = 0 then nI 1 else nI 2) r) → (∀ i, i ≠ 31 → i ≠ 32 → σ' 155 i = σ 155 i) → σ' 155 31 = nI ((if am = 0 then n else n + 1) - q) → σ' 155 32 = s 10 + nI 1 → (∀ i, i < n - q → σ' 180 i = σ 180 i) → (¬ am = 0 → σ' 180 (n - q) = nI k) → LR σ' (s_assess s x) hc ac pc cc (if am = 0 then g else gUp g n k) q (if am = 0 then n else n + 1) ∧ ∀ r, r < 155 → σ' r = σ r := fun σ' u1 u2 u3 u4 u5 u6 => by
        have u1' : ∀ r, r ≠ 155 → r ≠ 180 → r ≠ 172 → r ≠ 173 → σ' r = x52 r := fun r h1 h2 h3 h4 => by rw [u1 r h1 h2, up_rows h3, up_rows h4]
        refine ⟨LR_dec K R hx h hu hk0 hlt f f10 f4 f3 (fun r h0 h1 h2 h3 h4 h5 h6 h7 => by rw [u1' r h1 h7 h2 h3, o r h4 h5 h6]) u2 u3 u4 ?_ (fun c hc => ?_) ?_ (fun c hc => ?_) (fun i hi => ?_) ?_ (fun y hy => ?_) ?_ (fun y hy => ?_) u5 u6, fun r hr => by rw [u1' r (by omega) (by omega) (by omega) (by omega), o r (by omega) (by omega) (by omega)]⟩
        · rw [u1 172 (by decide) (by decide), up_same]
        · rw [u1 172 (by decide) (by decide), up_ix hc, up_rows (by decide), o _ (by omega) (by omega) (by omega)]
        · rw [u1 173 (by decide) (by decide), up_rows (by decide), up_same]
        · rw [u1 173 (by decide) (by decide), up_rows (by decide), up_ix hc, o _ (by omega) (by omega) (by omega)]
        · rw [u1' _ (by omega) (by omega) (by omega) (by omega)]; exact t2' i (by omega)
        · rw [u1' _ (by omega) (by omega) (by omega) (by omega)]; exact t8
        · rw [u1' _ (by omega) (by omega) (by omega) (by omega)]; exact t8' y hy
        · rw [u1' _ (by omega) (by omega) (by omega) (by omega)]; exact t9
        · rw [u1' _ (by omega) (by omega) (by omega) (by omega)]; exact t9' y hy
      have y180 : f_up (f_up x52 173 k (nI am)) 172 k (if am = 0 then nI 1 else nI 2) 180 = σ 180 := by rw [up_rows (by decide), up_rows (by decide), o _ (by omega) (by omega) (by omega)]
      by_cases ha : am = 0
      · have fin' := fin (f_up (f_up (f_up x52 173 k (nI am)) 172 k (if am = 0 then nI 1 else nI 2)) 155 32 (s 10 + nI 1)) (fun r h1 h2 => up_rows h1) (fun i h1 h2 => by rw [up_ix h2, y155]) (by rw [up_ix (by decide), y155, a6, if_pos ha]) (up_same _ _ _ _) (fun i hi => by rw [up_rows (by decide), y180]) (fun h => absurd ha h)
        refine ⟨_, _, _, ?_, KD, fin'.1, fin'.2⟩
        rw [if_pos (show ¬ (if am = 0 then nI 1 else nI 2) = nI 2 by rw [if_pos ha]; decide), bnd]
      · rw [if_neg ha] at hn20
        have fin' := fin (f_up (f_up (f_up (f_up (f_up x52 173 k (nI am)) 172 k (if am = 0 then nI 1 else nI 2)) 155 32 (s 10 + nI 1)) 180 (n - q) (nI k)) 155 31 (nI (n + 1 - q))) (fun r h1 h2 => by rw [up_rows h1, up_rows h2, up_rows h1]) (fun i h1 h2 => by rw [up_ix h1, up_rows (by decide), up_ix h2, y155]) (by rw [up_same, if_neg ha]) (by rw [up_ix (by decide), up_rows (by decide), up_same]) (fun i hi => by rw [up_rows (by decide), up_ix (by omega), up_rows (by decide), y180]) (fun _ => by rw [up_rows (by decide), up_same])
        refine ⟨_, _, _, ?_, KD, fin'.1, fin'.2⟩
        rw [if_neg (show ¬ ¬ (if am = 0 then nI 1 else nI 2) = nI 2 by rw [if_neg ha]; decide), up_ix (show 31 ≠ 32 by decide), y155 31, a6, f_wr_n (by omega) (by decide), bnd, bnd, up_rows (show 155 ≠ 180 by decide), up_ix (show 31 ≠ 32 by decide), y155 31, a6, n_add, show n - q + 1 = n + 1 - q by omega]
    · rw [if_neg (by rw [n_eq (by omega) (by omega)]; exact hlast)] at he
      rw [if_neg (by rw [n_le (by omega) (by omega)]; omega), bnd, he]
      have KW := K_work (w := w + 1) K h hu3 (by rw [hu1, nat_n (by omega), est, nat_n (by omega)]; omega) (by omega)
      exact ⟨_, g, n, rfl, KW, LR_work K R hx h hu hk0 hlt, fun r hr => up_rows (by omega)⟩
theorem L_ass {σ : f_M} {s : Nat → Int32} {D ck hc ac pc cc q n : Nat} {g : Nat → Nat} (K : kAll s D ck hc ac pc cc g q n) (R : LR σ s hc ac pc cc g q n) :
    ∃ (σ' : f_M) (g' : Nat → Nat) (n' : Nat), f_lp (fun z => b_ass z.1 z.2) f_F ((0 : Int32), σ) = some σ' ∧ kAll (s_asN s ac) D ck hc ac pc cc g' q n' ∧ LR σ' (s_asN s ac) hc ac pc cc g' q n' ∧ ∀ r, r < 155 → σ' r = σ r := by
  have hac := K.1.2.2.1.2.2
  have key : ∃ σ', f_lp (fun z => b_ass z.1 z.2) f_F ((0 : Int32), σ) = some σ' ∧ ∃ (g' : Nat → Nat) (n' : Nat), kAll (s_asN s ac) D ck hc ac pc cc g' q n' ∧ LR σ' (s_asN s ac) hc ac pc cc g' q n' ∧ ∀ r, r < 155 → σ' r = σ r := by
    refine lp_inv (fun j (z : Int32 × f_M) => ∃ (σj : f_M) (gj : Nat → Nat) (nj : Nat), z = (nI j, σj) ∧ kAll (s_asN s j) D ck hc ac pc cc gj q nj ∧ LR σj (s_asN s j) hc ac pc cc gj q nj ∧ ∀ r, r < 155 → σj r = σ r) _ ac (f_F_lt (by omega)) ⟨σ, g, n, rfl, K, R, fun _ _ => rfl⟩ ?_ ?_
    · rintro j z hj ⟨σj, gj, nj, rfl, Kj, Rj, fj⟩
      obtain ⟨σ', g', n', e1, e2, e3, e4⟩ := L_ass1 Kj hj Rj
      exact Or.inl ⟨_, e1, σ', g', n', rfl, e2, e3, fun r hr => (e4 r hr).trans (fj r hr)⟩
    · rintro z ⟨σj, gj, nj, rfl, Kj, Rj, fj⟩
      refine ⟨σj, ?_, gj, nj, Kj, Rj, fj⟩
      show b_ass (nI ac) σj = _
      unfold b_ass
      rw [if_pos (show σj 155 23 ≤ nI ac by rw [Rj.1.1.2.1, n_le (by omega) (by omega)]; omega)]
  obtain ⟨σ', e, g', n', h⟩ := key
  exact ⟨σ', g', n', e, h⟩
