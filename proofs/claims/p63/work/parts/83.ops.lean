/-! The changes of the state, in both; the history stays. -/
def setK (k : Nat) : Prop := k = 2 ∨ k = 3 ∨ k = 9 ∨ (20 ≤ k ∧ k < 98 ∧ (k < 92 → (k - 20) % 9 < 7))
theorem rS_congr {σ σ' : f_M} {a : Nat} {s s' : Nat → Int32} {hc ac : Nat} (hhc : hc ≤ 8) (hac : ac ≤ 3) (hk : ∀ h, h < hc → nat (s (20 + 9 * h + 0)) ≤ 6) (eσ : ∀ j, j < 5 → σ' (a + j) = σ (a + j)) (e : ∀ k, setK k → s' k = s k) (h : rS σ a s hc ac) : rS σ' a s' hc ac := by
  have h0 := rS_frame eσ h
  obtain ⟨⟨h1, h2⟩, h3, h4, h5⟩ := h0
  refine ⟨⟨by rw [e 2 (by unfold setK; omega)]; exact h1, by rw [e 3 (by unfold setK; omega)]; exact h2⟩, fun x hx => ?_, fun h hh => ?_, by rw [e 9 (by unfold setK; omega)]; exact h5⟩
  · rw [e _ (by unfold setK; omega)]; exact h3 x hx
  · have h6 := hk h hh
    rw [e (20 + 9 * h + 0) (by unfold setK; omega)]
    refine ⟨(h4 h hh).1, fun k hk => ?_⟩
    rw [e _ (by unfold setK; omega)]
    exact (h4 h hh).2 k hk
theorem kAll_len {s : Nat → Int32} {D ck hc ac pc cc q n : Nat} {g : Nat → Nat} (K : kAll s D ck hc ac pc cc g q n) : ∀ h, h < hc → nat (s (20 + 9 * h + 0)) ≤ 6 := by
  intro h hh
  obtain ⟨m, m1, m2, m3, m4⟩ := K.2.2.2.2.2.2.2.2.1.2 h hh
  rw [m3, nat_n (by omega)]; exact m2
/-- what an operation on the state leaves alone, in the class and in the model -/
def opF (σ σ' τ τ' : f_M) (ck pc cc : Nat) : Prop := (∀ r, (r < 109 ∨ 127 < r) → σ' r = σ r) ∧ (∀ t, t < ck → σ' 109 t = σ 109 t ∧ σ' 110 t = σ 110 t) ∧ (∀ r, 111 ≤ r → r ≤ 118 → ∀ i, i < pc → σ' r i = σ r i) ∧ (∀ i, i < cc → σ' 119 i = σ 119 i ∧ σ' 120 i = σ 120 i) ∧ ∀ r, r ≠ 156 → τ' r = τ r
theorem opF.refl (a x : f_M) (ck pc cc : Nat) : opF a a x x ck pc cc := ⟨fun _ _ => rfl, fun _ _ => ⟨rfl, rfl⟩, fun _ _ _ _ _ => rfl, fun _ _ => ⟨rfl, rfl⟩, fun _ _ => rfl⟩
theorem opF.trans {a b c x y z : f_M} {ck pc cc ck' pc' cc' : Nat} (h1 : opF a b x y ck pc cc) (h2 : opF b c y z ck' pc' cc') (e1 : ck ≤ ck') (e2 : pc ≤ pc') (e3 : cc ≤ cc') : opF a c x z ck pc cc := by
  obtain ⟨p1, p2, p3, p4, p5⟩ := h1
  obtain ⟨q1, q2, q3, q4, q5⟩ := h2
  exact ⟨fun r h => (q1 r h).trans (p1 r h), fun t ht => ⟨(q2 t (by omega)).1.trans (p2 t ht).1, (q2 t (by omega)).2.trans (p2 t ht).2⟩, fun r h h' i hi => (q3 r h h' i (by omega)).trans (p3 r h h' i hi), fun i hi => ⟨(q4 i (by omega)).1.trans (p4 i hi).1, (q4 i (by omega)).2.trans (p4 i hi).2⟩, fun r h => (q5 r h).trans (p5 r h)⟩
theorem rB_op {σ σ' τ τ' : f_M} {s : Nat → Int32} {ck pc cc ck' pc' cc' : Nat} (f : opF σ σ' τ τ' ck pc cc) (e1 : ck' ≤ ck) (e2 : pc' ≤ pc) (e3 : cc' ≤ cc) (h : rB σ 108 s ck' pc' cc') : rB σ' 108 s ck' pc' cc' := by
  obtain ⟨p1, p2, p3, p4, p5⟩ := f
  obtain ⟨h1, h2, h3⟩ := h
  refine ⟨fun t ht => ?_, fun p hp => ?_, fun c hc => ?_⟩
  · obtain ⟨a1, a2⟩ := p2 t (by omega)
    obtain ⟨b1, b2⟩ := h1 t ht
    exact ⟨a1.trans b1, a2.trans b2⟩
  · exact rP_at (fun i _ => rfl) (fun i h i' => p3 (108 + i) (by omega) (by omega) p (by omega)) (h2 p hp)
  · obtain ⟨a1, a2⟩ := p4 c (by omega)
    obtain ⟨b1, b2⟩ := h3 c hc
    exact ⟨a1.trans b1, a2.trans b2⟩
theorem cH_op {σ σ' τ τ' : f_M} {D D' hc ac ck pc cc k o ck' pc' cc' : Nat} {P : Nat → Nat → Int32} (H : cH σ D hc ac ck pc cc k o P) (f : opF σ σ' τ τ' ck pc cc) (e1 : ck ≤ ck') (e2 : pc ≤ pc') (e3 : cc ≤ cc') (hD : D ≤ D') : cH σ' D' hc ac ck' pc' cc' k o P := by
  obtain ⟨CK, PC, CC, Q, N, G, ⟨a1, a2, a3, a4⟩, h1, h2, h3⟩ := H
  refine ⟨CK, PC, CC, Q, N, G, ⟨?_, ?_, a3, a4⟩, fun i hi => ?_, h2, fun i hi => ?_⟩
  · rw [f.1 44 (by omega)]; exact a1
  · rw [f.1 44 (by omega)]; exact a2
  · obtain ⟨b1, b2, b3, b4⟩ := h1 i hi
    obtain ⟨c1, c2, c3⟩ := h3 i hi
    have hm : (o + i) % 8 < 8 := Nat.mod_lt _ (by omega)
    exact ⟨kAll_mono hD b1, rB_op f c1 c2 c3 b2, rL_frame (fun j hj => f.1 _ (by omega)) b3, rS_frame (fun j hj => f.1 _ (by omega)) b4⟩
  · obtain ⟨c1, c2, c3⟩ := h3 i hi
    exact ⟨by omega, by omega, by omega⟩
/-! an hour -/
theorem s_hour_set {s : Nat → Int32} {D ck hc ac pc cc q n k : Nat} {g : Nat → Nat} {w r : Int32} (K : kAll s D ck hc ac pc cc g q n) (hck : ck < 1000) (hk : setK k) : s_hour s w r k = s k := by
  have h := K.okF
  have hpc := h.2.2.1.2
  have hcc := h.2.2.2.1.2
  have e5 : nat (s 5) = cc := by rw [h.2.2.2.1.1, nat_n (by omega)]
  have k1 := okF_day h
  have k2 := okF_wx (w := w) (r := r) k1 hck
  have k3 := okF_asN k2 (nat (s 3))
  unfold setK at hk
  unfold s_hour
  rw [e5, s_pall_fix hcc (by omega) (by omega) (fun h hh => ⟨by omega, by omega⟩) (fun c hc => by omega) _ _ k3.toK, s_asN_keep (by omega) (by omega), s_wx_keep (by omega) (by omega) (by omega), s_day_keep h (by omega) (by omega) (fun h hh => by omega) (fun p hp => by omega)]
theorem P_hour {σ τ : f_M} {D ck hc ac pc cc q n : Nat} {g : Nat → Nat} {w r : Int32} (hD : D ≤ 1000000000) (hck : ck < 1000) (hw : isN w 151) (hr : isN r 51) (S : sAll σ τ D ck hc ac pc cc g q n) :
    ∃ v σ' τ', g_94 w r σ = some (v, σ') ∧ g_140 w r τ = some (v, τ') ∧ (∃ g' q' n', sAll σ' τ' D (ck + 1) hc ac pc cc g' q' n') ∧ opF σ σ' τ τ' ck pc cc := by
  obtain ⟨K, B, l, R⟩ := S
  obtain ⟨σ', e1, g', q', n', K', B', l', f1, f2⟩ := C_hour hD hck hw hr K B l R
  have hm := M_hour (w := w) (r := r) K.okF hck
  refine ⟨_, σ', _, e1, hm, ⟨g', q', n', ?_, ?_, ?_, ?_⟩, ⟨fun x hx => f1 x (by omega) (by omega) (by omega), fun t ht => f2 t (by omega), fun x h h' i hi => by rw [f1 x (by omega) (by omega) (by omega)], fun i hi => ⟨by rw [f1 119 (by omega) (by omega) (by omega)], by rw [f1 120 (by omega) (by omega) (by omega)]⟩, fun x hx => row_ne hx⟩⟩
  · rw [row_same]; exact K'
  · rw [row_same]; exact B'
  · rw [row_same]; exact l'
  · rw [row_same]
    exact rS_congr K.1.2.1.2.2 K.1.2.2.1.2.2 (kAll_len K) (fun j hj => f1 _ (by omega) (by omega) (by omega)) (fun k hk => s_hour_set K hck hk) R
/-! a deposit -/
theorem P_dep {σ τ : f_M} {D ck hc ac pc cc q n h v : Nat} {g : Nat → Nat} (hD : D ≤ 1000000000) (hv : v ≤ 1000) (hh : h < hc) (S : sAll σ τ D ck hc ac pc cc g q n) :
    ∃ w σ' τ', g_111 (nI h) (nI v) σ = some (w, σ') ∧ g_149 (nI h) (nI v) τ = some (w, τ') ∧ (∃ m, m < 2147483648 ∧ v ≤ m ∧ w = nI m) ∧ sAll σ' τ' (D + v) ck hc ac pc cc g q n ∧ opF σ σ' τ τ' ck pc cc := by
  obtain ⟨K, B, l, R⟩ := S
  have hhc := K.1.2.1.2.2
  have hpc := K.1.2.2.2.1.2
  have hcc := K.1.2.2.2.2.2
  obtain ⟨σ', e1, l', f1⟩ := C_dep (v := nI v) hhc hpc hcc hh l
  have hm := M_dep (σ := τ) (h := h) (v := nI v) (by omega)
  have K' := K_dep (v := v) hD hv K hh
  have keep : ∀ k, k ≠ 20 + 9 * h + 7 → k ≠ 8 → s_dep (τ 156) h (nI v) k = τ 156 k := fun k h1 h2 => by unfold s_dep; rw [upd_ne h2, upd_ne h1]
  refine ⟨_, σ', _, e1, hm, ?_, ⟨?_, ?_, ?_, ?_⟩, ⟨fun x hx => f1 x (by omega) (by omega), fun t ht => ⟨by rw [f1 109 (by omega) (by omega)], by rw [f1 110 (by omega) (by omega)]⟩, fun x h h' i hi => by rw [f1 x (by omega) (by omega)], fun i hi => ⟨by rw [f1 119 (by omega) (by omega)], by rw [f1 120 (by omega) (by omega)]⟩, fun x hx => row_ne hx⟩⟩
  · obtain ⟨-, d, d1, d2, d3⟩ := K.2.2.2.2.2.2.2.1
    obtain ⟨m, m1, m2⟩ := d3 h hh
    have h7 : nat (τ 156 7) ≤ 1000000 := by
      have := K.2.2.2.2.2.1.2
      have hq : q ≤ 20 := by
        have h9 := K.2.2.2.1.2.2.1
        have := cntN_le (isQ (τ 156)) cc
        omega
      have hs : sumN (fun i => amt (τ 156) (g i)) q ≤ q * 500 := sumN_le fun i hi => by
        have hg := K.2.2.2.1.2.2.2.1 i (by have := K.2.2.2.1.1; omega)
        have := ((K.2.2.1 (g i) hg).2.2.2.2.1.nat (by omega)).2
        unfold amt; omega
      have : q * 500 ≤ 20 * 500 := Nat.mul_le_mul_right _ hq
      rw [‹τ 156 7 = _›, nat_n (by omega)]
      omega
    exact ⟨m + v, by omega, by omega, by rw [m1, n_add]⟩
  · rw [row_same]; exact K'
  · rw [row_same]
    exact rB_congr hpc hcc (fun i hi => f1 _ (by omega) (by omega)) (fun k hk => keep k (by unfold bookK at hk; omega) (by unfold bookK at hk; omega)) B
  · rw [row_same]; exact l'
  · rw [row_same]
    exact rS_congr hhc K.1.2.2.1.2.2 (kAll_len K) (fun j hj => f1 _ (by omega) (by omega)) (fun k hk => keep k (by unfold setK at hk; omega) (by unfold setK at hk; omega)) R
/-! a claim -/
theorem P_claim {σ τ : f_M} {D ck hc ac pc cc q n p : Nat} {g : Nat → Nat} (hp : p < pc) (hcc : cc < 20) (hcode : s_code (τ 156) cc p = 0) (S : sAll σ τ D ck hc ac pc cc g q n) :
    ∃ σ' τ', g_109 (nI p) σ = some (nI cc, σ') ∧ g_148 (nI p) τ = some (nI cc, τ') ∧ sAll σ' τ' D ck hc ac pc (cc + 1) g q n ∧ opF σ σ' τ τ' ck pc cc := by
  obtain ⟨K, B, l, R⟩ := S
  have hhc := K.1.2.1.2.2
  have hpc := K.1.2.2.2.1.2
  have hac := K.1.2.2.1
  have h5 := K.1.2.2.2.2.1
  obtain ⟨σ', e1, B', l', f1⟩ := C_file K B l R.1.2 hp hcc
  have hm := M_file (σ := τ) (p := p) h5 hcc hac.1 hac.2.1 hac.2.2 (by omega)
  have K' := K_filed K hp hcc hcode
  have keep := (file_v (τ 156) (p := p) (c := cc) (by omega) hcc).2
  refine ⟨σ', _, e1, hm, ⟨?_, ?_, ?_, ?_⟩, ⟨fun x hx => funext fun i => f1 x i (by omega) (by omega) (by omega) (by omega) (by omega), fun t ht => ⟨f1 109 t (by omega) (by omega) (by omega) (by omega) (by omega), f1 110 t (by omega) (by omega) (by omega) (by omega) (by omega)⟩, fun x h h' i hi => f1 x i (by omega) (by omega) (by omega) (by omega) (by omega), fun i hi => ⟨f1 119 i (by omega) (by omega) (by omega) (by omega) (by omega), f1 120 i (by omega) (by omega) (by omega) (by omega) (by omega)⟩, fun x hx => row_ne hx⟩⟩
  · rw [row_same]; exact K'
  · rw [row_same]; exact B'
  · rw [row_same]; exact l'
  · rw [row_same]
    exact rS_congr hhc hac.2.2 (kAll_len K) (fun j hj => funext fun i => f1 _ i (by omega) (by omega) (by omega) (by omega) (by omega)) (fun k hk => keep k (by unfold setK at hk; omega) (by unfold setK at hk; omega) (by unfold setK at hk; omega)) R
