theorem fu {n k : Nat} (h : k < n) : ∃ m, n = m + 1 ∧ k ≤ m := ⟨n - 1, by omega, by omega⟩
theorem nI_s (n : Nat) (h : 0 < n) : nI n - 1 = nI (n - 1) := by
  obtain ⟨m, rfl⟩ : ∃ m, n = m + 1 := ⟨n - 1, by omega⟩
  exact nI_pred m
def rot (k N i : Nat) : Nat := if k ≤ i ∧ i < N - 1 then i + 1 else if i = N - 1 then k else i
theorem v_rem_loop {σ0 : Mem} {Q : List Pk} {k : Nat} (h : CQ σ0 Q) (hk : k < Q.length) : ∀ (t v : Nat) (σ : Mem), Q.length - v < t → k + 1 ≤ v → v ≤ Q.length → Sm [500] σ0 σ → (∀ i, i < 60 → pi σ i = if k ≤ i ∧ i < v - 1 then pi σ0 (i + 1) else pi σ0 i) → ∃ σ', f_X5_remove_11 t (pi σ0 k) (nI v) σ = some σ' ∧ Sm [500, 501] σ0 σ' ∧ σ' 501 0 0 = nI (Q.length - 1) ∧ ∀ i, i < 60 → pi σ' i = pi σ0 (rot k Q.length i) := by
  obtain ⟨h1, h2, h3, h4, h5⟩ := h
  intro t
  induction t with
  | zero => intro v σ ht; omega
  | succ t ih =>
    intro v σ ht hv1 hv2 hS hp
    have e1 : σ 501 0 0 = nI Q.length := (hS.at (by decide) 0 0).trans h1
    rw [f_X5_remove_11.eq_2, e1]
    by_cases c1 : v = Q.length
    · subst c1
      rw [if_pos (nI_le (Nat.le_refl _) (by omega)), vl_d, up_at, nI_s _ (by omega), gd_p (vin_n (by omega) (by decide)), vl_d, cln (by omega)]
      refine ⟨_, rfl, ?_, ?_, fun i hi => ?_⟩
      · exact (Sm.up (by decide) (Sm.up (by decide) (hS.mono (by decide))))
      · rw [up_rd, if_neg (by omega), up_at]
      · have e2 : ∀ x y, pi (up (up σ 501 0 0 x) 500 0 (Q.length - 1) y) i = if i = Q.length - 1 then y.toNatClampNeg else pi σ i := by
          intro x y
          unfold pi
          rw [up_rd]
          by_cases c : i = Q.length - 1
          · rw [if_pos ⟨rfl, rfl, c⟩, if_pos c]
          · rw [if_neg (fun q => c q.2.2), if_neg c, up_fn (by decide)]
        rw [e2, ncl (h3 k (by omega)), hp i hi]
        unfold rot
        by_cases c2 : i = Q.length - 1
        · subst c2
          rw [if_pos rfl, if_neg (by omega), if_pos rfl]
        · rw [if_neg c2]
          by_cases c3 : k ≤ i ∧ i < Q.length - 1
          · rw [if_pos c3, if_pos c3]
          · rw [if_neg c3, if_neg c3, if_neg c2]
    · have hv : v < Q.length := by omega
      rw [if_neg (nI_ge hv (by omega)), gd_p (vin_n (by omega) (by decide)), cln (by omega)]
      have pv : (σ 500 0 v).toNatClampNeg = pi σ0 v := by
        have := hp v (by omega)
        rw [if_neg (by omega)] at this
        exact this
      rw [pv, gd_p (decide_eq_true (h3 v (by omega))), nI_s v (by omega), gd_p (vin_n (by omega) (by decide)), vl_d, cln (by omega), vl_d, nI_1]
      refine ih (v + 1) _ (by omega) (by omega) (by omega) (Sm.up (by decide) hS) (fun i hi => ?_)
      unfold pi
      rw [up_rd]
      by_cases c : i = v - 1
      · rw [if_pos ⟨rfl, rfl, c⟩, ncl (show (σ0 500 0 v).toNatClampNeg < 60 from h3 v (by omega))]
        subst c
        rw [if_pos (by omega), show v - 1 + 1 = v by omega]
      · rw [if_neg (fun q => c q.2.2)]
        have := hp i hi
        unfold pi at this
        rw [this]
        by_cases c3 : k ≤ i ∧ i < v - 1
        · rw [if_pos c3, if_pos (by omega)]
        · rw [if_neg c3, if_neg (by omega)]
theorem v_remove {σ : Mem} {Q : List Pk} {k : Nat} (h : CQ σ Q) (hk : k < Q.length) : ∃ σ', f_X5_remove (nI k) σ = some σ' ∧ CQ σ' (Q.eraseIdx k) ∧ Sm [500, 501] σ σ' := by
  have h0 := h
  obtain ⟨h1, h2, h3, h4, h5⟩ := h
  unfold f_X5_remove
  rw [gd_p (vin_n (by omega) (by decide)), cln (by omega), gd_p (decide_eq_true (show (σ 500 0 k).toNatClampNeg < 60 from h3 k (by omega))), vl_d, nI_1]
  obtain ⟨σ', e, hS, hz, hp⟩ := v_rem_loop h0 hk 5000 (k + 1) σ (by omega) (by omega) (by omega) Sm.rf (fun i hi => by rw [if_neg (by omega)])
  refine ⟨σ', e, ⟨?_, ?_, fun i hi => ?_, fun a b ha hb e => ?_, fun i p hi => ?_⟩, hS⟩
  · rw [hz, List.length_eraseIdx_of_lt hk]
  · rw [List.length_eraseIdx_of_lt hk]; omega
  · rw [hp i hi]
    exact h3 _ (by unfold rot; split; { omega }; { split <;> omega })
  · rw [hp a ha, hp b hb] at e
    have := h4 _ _ (by unfold rot; split; { omega }; { split <;> omega }) (by unfold rot; split; { omega }; { split <;> omega }) e
    unfold rot at this
    split at this <;> split at this <;> (try split at this) <;> (try split at this) <;> omega
  · have hil := q_lt hi
    rw [List.length_eraseIdx_of_lt hk] at hil
    rw [List.getElem?_eraseIdx] at hi
    rw [hp i (by omega)]
    have key : ∀ q, Q[q]? = some p → rot k Q.length i = q → σ' 301 (pi σ (rot k Q.length i)) 0 = p.1 ∧ BL σ' (pi σ (rot k Q.length i)) p.2 := by
      intro q hq hr
      rw [hr]
      obtain ⟨a1, a2⟩ := h5 q p hq
      exact ⟨(hS.at (by decide) _ _).trans a1, a2.mv (by rw [hS 0 (by decide)]) (by rw [hS 1 (by decide)])⟩
    by_cases c : i < k
    · rw [if_pos c] at hi
      exact key i hi (by unfold rot; rw [if_neg (by omega), if_neg (by omega)])
    · rw [if_neg c] at hi
      exact key (i + 1) hi (by unfold rot; rw [if_pos (by omega)])
/-! the model's row -/
def MU (σ : Mem) (Q : List Pk) : Prop := σ 823 0 0 = nI Q.length ∧ Q.length ≤ 60 ∧ ∀ k p, Q[k]? = some p → σ 825 0 k = p.1 ∧ σ 826 0 k = nI p.2.length ∧ p.2.length ≤ 60 ∧ ∀ i, i < p.2.length → σ 827 0 (64 * k + i) = p.2.getD i 0
def ML (σ : Mem) (L : List Int32) : Prop := σ 828 0 0 = nI L.length ∧ ∀ i, i < L.length → σ 829 0 i = L.getD i 0
def MT (σ : Mem) (L : List Int32) : Prop := σ 830 0 0 = nI L.length ∧ L.length ≤ 60 ∧ ∀ i, i < L.length → σ 831 0 i = L.getD i 0
theorem MU.mv {σ σ' : Mem} {Q : List Pk} (h : MU σ Q) (a : σ' 823 = σ 823) (b : σ' 825 = σ 825) (c : σ' 826 = σ 826) (d : σ' 827 = σ 827) : MU σ' Q := ⟨by rw [a]; exact h.1, h.2.1, fun k p hk => by rw [b, c, d]; exact h.2.2 k p hk⟩
theorem v_send_loop {σ0 : Mem} {L : List Int32} {n : Nat} (hn : n < 60) (hL : L.length ≤ 60) (h828 : σ0 828 0 0 = nI L.length) (h823 : σ0 823 0 0 = nI n) (hm : ∀ i, i < L.length → σ0 829 0 i = L.getD i 0) : ∀ (t v : Nat) (σ : Mem), L.length - v < t → v ≤ L.length → Sm [827] σ0 σ → (∀ i, σ 827 0 i = if 64 * n ≤ i ∧ i < 64 * n + v then L.getD (i - 64 * n) 0 else σ0 827 0 i) → ∃ σ', f_X8_send_45 t (nI v) σ = some σ' ∧ Sm [823, 827] σ0 σ' ∧ σ' 823 0 0 = nI (n + 1) ∧ ∀ i, σ' 827 0 i = if 64 * n ≤ i ∧ i < 64 * n + L.length then L.getD (i - 64 * n) 0 else σ0 827 0 i := by
  intro t
  induction t with
  | zero => intro v σ ht; omega
  | succ t ih =>
    intro v σ ht hv hS hp
    have e1 : σ 828 0 0 = nI L.length := (hS.at (by decide) 0 0).trans h828
    have e2 : σ 823 0 0 = nI n := (hS.at (by decide) 0 0).trans h823
    rw [f_X8_send_45.eq_2, e1, e2]
    by_cases c1 : v = L.length
    · subst c1
      rw [if_pos (nI_le (Nat.le_refl _) (by omega)), vl_d, nI_1]
      exact ⟨_, rfl, Sm.up (by decide) (hS.mono (by decide)), by rw [up_at], fun i => by rw [up_fn (by decide)]; exact hp i⟩
    · rw [if_neg (nI_ge (by omega) (by omega)), gd_p (vin_n (by omega) (by decide)), cln (by omega)]
      rw [show (64 : Int32) * nI n + nI v = nI (64 * n + v) from by rw [show (64 : Int32) = nI 64 from rfl, pk_mul, nI_add], gd_p (vin_n (by omega) (by decide)), vl_d, cln (by omega), vl_d, nI_1]
      refine ih (v + 1) _ (by omega) (by omega) (Sm.up (by decide) hS) (fun i => ?_)
      rw [up_rd]
      by_cases c : i = 64 * n + v
      · rw [if_pos ⟨rfl, rfl, c⟩, if_pos (by omega), hS.at (by decide), hm v (by omega)]
        congr 1; omega
      · rw [if_neg (fun q => c q.2.2), hp i]
        by_cases c2 : 64 * n ≤ i ∧ i < 64 * n + v
        · rw [if_pos c2, if_pos (by omega)]
        · rw [if_neg c2, if_neg (by omega)]
theorem v_send {σ : Mem} {Q : List Pk} {L : List Int32} (place : Int32) (h : MU σ Q) (hm : ML σ L) (hL : L.length ≤ 60) : ∃ σ', f_X8_send place σ = some σ' ∧ MU σ' (qp Q (place, L)) ∧ σ' 824 0 0 = (if Q.length < 60 then σ 824 0 0 else σ 824 0 0 + 1) ∧ Sm [823, 824, 825, 826, 827] σ σ' := by
  obtain ⟨h1, h2, h3⟩ := h
  unfold f_X8_send qp
  rw [h1]
  by_cases hn : Q.length < 60
  · rw [if_neg (show ¬ nI Q.length = (60 : Int32) from fun q => by have := (nI_eq (a := Q.length) (b := 60) (by omega) (by decide)).mp q; omega), gd_p (vin_n hn (by decide)), vl_d, up_fn (by decide), h1, gd_p (vin_n hn (by decide)), vl_d, cln (by omega), if_pos hn, if_pos hn]
    obtain ⟨σ', e, hS, hz, hp⟩ := v_send_loop (σ0 := up (up σ 825 0 Q.length place) 826 0 Q.length (up σ 825 0 Q.length place 828 0 0)) (L := L) (n := Q.length) hn hL (by rw [up_fn (by decide), up_fn (by decide)]; exact hm.1) (by rw [up_fn (by decide), up_fn (by decide)]; exact h1) (fun i hi => by rw [up_fn (by decide), up_fn (by decide)]; exact hm.2 i hi) 5000 0 _ (by omega) (Nat.zero_le _) Sm.rf (fun i => by rw [if_neg (by omega)])
    refine ⟨σ', e, ⟨?_, ?_, fun k p hk => ?_⟩, ?_, ?_⟩
    · rw [hz, List.length_append]; rfl
    · rw [List.length_append]; show Q.length + 1 ≤ 60; omega
    · have hkl := q_lt hk
      rw [List.length_append] at hkl
      have hkl : k < Q.length + 1 := hkl
      rw [hS 825 (by decide), hS 826 (by decide)]
      by_cases e : k = Q.length
      · subst e
        rw [List.getElem?_append_right (Nat.le_refl _), Nat.sub_self] at hk
        cases hk
        refine ⟨by rw [up_fn (by decide), up_at], by rw [up_at, up_fn (by decide)]; exact hm.1, hL, fun i hi => ?_⟩
        have hi : i < L.length := hi
        rw [hp, if_pos (by omega)]
        show _ = L.getD i 0
        congr 1; omega
      · rw [List.getElem?_append_left (by omega)] at hk
        obtain ⟨a1, a2, a3, a4⟩ := h3 k p hk
        refine ⟨?_, ?_, a3, fun i hi => ?_⟩
        · rw [up_fn (by decide), up_rd, if_neg (fun q => e q.2.2)]; exact a1
        · rw [up_rd, if_neg (fun q => e q.2.2), up_fn (by decide)]; exact a2
        · rw [hp, if_neg (by omega), up_fn (by decide), up_fn (by decide)]; exact a4 i hi
    · rw [hS 824 (by decide), up_fn (by decide), up_fn (by decide)]
    · exact (Sm.up (by decide) (Sm.up (by decide) Sm.rf)).tr (hS.mono (by decide))
  · rw [if_pos (show nI Q.length = (60 : Int32) from by rw [show Q.length = 60 by omega]; rfl), vl_d, if_neg hn, if_neg hn]
    exact ⟨_, rfl, ⟨by rw [up_fn (by decide)]; exact h1, h2, fun k p hk => by rw [up_fn (by decide), up_fn (by decide), up_fn (by decide)]; exact h3 k p hk⟩, by rw [up_at], Sm.up (by decide) Sm.rf⟩

theorem v_mrem2 {σ0 : Mem} {k N : Nat} (hN : N ≤ 60) (hk : k < N) (h823 : σ0 823 0 0 = nI (N - 1)) : ∀ (t v : Nat) (σ : Mem), 64 * (N - 1) - v < t → 64 * k ≤ v → v ≤ 64 * (N - 1) → Sm [827] σ0 σ → (∀ i, σ 827 0 i = if 64 * k ≤ i ∧ i < v then σ0 827 0 (i + 64) else σ0 827 0 i) → ∃ σ', f_X8_remove_59 t (nI v) σ = some σ' ∧ Sm [827] σ0 σ' ∧ ∀ i, σ' 827 0 i = if 64 * k ≤ i ∧ i < 64 * (N - 1) then σ0 827 0 (i + 64) else σ0 827 0 i := by
  intro t
  induction t with
  | zero => intro v σ ht; omega
  | succ t ih =>
    intro v σ ht hv1 hv2 hS hp
    have e2 : σ 823 0 0 = nI (N - 1) := (hS.at (by decide) 0 0).trans h823
    rw [f_X8_remove_59.eq_2, e2, show (64 : Int32) * nI (N - 1) = nI (64 * (N - 1)) from by rw [show (64 : Int32) = nI 64 from rfl, pk_mul]]
    by_cases c1 : v = 64 * (N - 1)
    · subst c1
      rw [if_pos (nI_le (Nat.le_refl _) (by omega))]
      exact ⟨σ, rfl, hS, hp⟩
    · rw [if_neg (nI_ge (by omega) (by omega)), show nI v + (64 : Int32) = nI (v + 64) from nI_add v 64, gd_p (vin_n (by omega) (by decide)), gd_p (vin_n (by omega) (by decide)), vl_d, cln (by omega), cln (by omega), vl_d, nI_1]
      refine ih (v + 1) _ (by omega) (by omega) (by omega) (Sm.up (by decide) hS) (fun i => ?_)
      rw [up_rd]
      by_cases c : i = v
      · subst c
        rw [if_pos ⟨rfl, rfl, rfl⟩, if_pos (by omega), hp, if_neg (by omega)]
      · rw [if_neg (fun q => c q.2.2), hp i]
        by_cases c2 : 64 * k ≤ i ∧ i < v
        · rw [if_pos c2, if_pos (by omega)]
        · rw [if_neg c2, if_neg (by omega)]
theorem v_mrem1 {σ0 : Mem} {k N : Nat} (hN : N ≤ 60) (hk : k < N) (h823 : σ0 823 0 0 = nI (N - 1)) : ∀ (t v : Nat) (σ : Mem), N - 1 - v < t → k ≤ v → v ≤ N - 1 → Sm [825, 826] σ0 σ → (∀ f, f = 825 ∨ f = 826 → ∀ i, σ f 0 i = if k ≤ i ∧ i < v then σ0 f 0 (i + 1) else σ0 f 0 i) → ∃ σ', f_X8_remove_12 t (nI k) (nI v) σ = some σ' ∧ Sm [825, 826, 827] σ0 σ' ∧ (∀ f, f = 825 ∨ f = 826 → ∀ i, σ' f 0 i = if k ≤ i ∧ i < N - 1 then σ0 f 0 (i + 1) else σ0 f 0 i) ∧ ∀ i, σ' 827 0 i = if 64 * k ≤ i ∧ i < 64 * (N - 1) then σ0 827 0 (i + 64) else σ0 827 0 i := by
  intro t
  induction t with
  | zero => intro v σ ht; omega
  | succ t ih =>
    intro v σ ht hv1 hv2 hS hp
    have e2 : σ 823 0 0 = nI (N - 1) := (hS.at (by decide) 0 0).trans h823
    rw [f_X8_remove_12.eq_2, e2]
    by_cases c1 : v = N - 1
    · subst c1
      rw [if_pos (nI_le (Nat.le_refl _) (by omega)), show (64 : Int32) * nI k = nI (64 * k) from by rw [show (64 : Int32) = nI 64 from rfl, pk_mul], vl_d]
      obtain ⟨σ', e, hS2, h2⟩ := v_mrem2 hN hk e2 5000 (64 * k) σ (by omega) (by omega) (by omega) Sm.rf (fun i => by rw [if_neg (by omega)])
      refine ⟨σ', e, (hS.mono (by decide)).tr (hS2.mono (by decide)), fun f hf i => ?_, fun i => ?_⟩
      · rw [hS2 f (by rcases hf with rfl | rfl <;> decide)]; exact hp f hf i
      · rw [h2, hS 827 (by decide)]
    · rw [if_neg (nI_ge (by omega) (by omega)), nI_1, gd_p (vin_n (by omega) (by decide)), gd_p (vin_n (by omega) (by decide)), vl_d, gd_p (vin_n (by omega) (by decide)), gd_p (vin_n (by omega) (by decide)), vl_d, cln (by omega), cln (by omega), vl_d]
      refine ih (v + 1) _ (by omega) (by omega) (by omega) (Sm.up (by decide) (Sm.up (by decide) hS)) (fun f hf i => ?_)
      have hpf := hp f hf
      rcases hf with rfl | rfl
      · rw [up_fn (by decide), up_rd]
        by_cases c : i = v
        · subst c
          rw [if_pos ⟨rfl, rfl, rfl⟩, if_pos (by omega), hpf, if_neg (by omega)]
        · rw [if_neg (fun q => c q.2.2), hpf i]
          by_cases c2 : k ≤ i ∧ i < v
          · rw [if_pos c2, if_pos (by omega)]
          · rw [if_neg c2, if_neg (by omega)]
      · rw [up_rd]
        by_cases c : i = v
        · subst c
          rw [if_pos ⟨rfl, rfl, rfl⟩, up_fn (by decide), if_pos (by omega), hpf, if_neg (by omega)]
        · rw [if_neg (fun q => c q.2.2), up_fn (by decide), hpf i]
          by_cases c2 : k ≤ i ∧ i < v
          · rw [if_pos c2, if_pos (by omega)]
          · rw [if_neg c2, if_neg (by omega)]
theorem v_mremove {σ : Mem} {Q : List Pk} {k : Nat} (h : MU σ Q) (hk : k < Q.length) : ∃ σ', f_X8_remove (nI k) σ = some σ' ∧ MU σ' (Q.eraseIdx k) ∧ Sm [823, 825, 826, 827] σ σ' := by
  obtain ⟨h1, h2, h3⟩ := h
  unfold f_X8_remove
  rw [vl_d, h1, nI_s _ (by omega)]
  obtain ⟨σ', e, hS, hp, hq⟩ := v_mrem1 (σ0 := up σ 823 0 0 (nI (Q.length - 1))) h2 hk (by rw [up_at]) 5000 k _ (by omega) (Nat.le_refl _) (by omega) Sm.rf (fun f hf i => by rw [if_neg (by omega)])
  refine ⟨σ', e, ⟨?_, ?_, fun i p hi => ?_⟩, (Sm.up (by decide) Sm.rf).tr (hS.mono (by decide))⟩
  · rw [hS 823 (by decide), up_at, List.length_eraseIdx_of_lt hk]
  · rw [List.length_eraseIdx_of_lt hk]; omega
  · have hil := q_lt hi
    rw [List.length_eraseIdx_of_lt hk] at hil
    rw [List.getElem?_eraseIdx] at hi
    rw [hp 825 (Or.inl rfl), hp 826 (Or.inr rfl), up_fn (by decide), up_fn (by decide)]
    by_cases c : i < k
    · rw [if_pos c] at hi
      obtain ⟨a1, a2, a3, a4⟩ := h3 i p hi
      rw [if_neg (by omega), if_neg (by omega)]
      exact ⟨a1, a2, a3, fun q hq2 => by rw [hq, if_neg (by omega), up_fn (by decide)]; exact a4 q hq2⟩
    · rw [if_neg c] at hi
      obtain ⟨a1, a2, a3, a4⟩ := h3 (i + 1) p hi
      rw [if_pos (by omega), if_pos (by omega)]
      exact ⟨a1, a2, a3, fun q hq2 => by rw [hq, if_pos (by omega), up_fn (by decide), show 64 * i + q + 64 = 64 * (i + 1) + q by omega]; exact a4 q hq2⟩
theorem v_take_loop {σ0 : Mem} {L : List Int32} {k : Nat} (hk : k < 60) (hL : L.length ≤ 60) (h828 : σ0 828 0 0 = nI L.length) (hm : ∀ i, i < L.length → σ0 827 0 (64 * k + i) = L.getD i 0) : ∀ (t v : Nat) (σ : Mem), L.length - v < t → v ≤ L.length → Sm [829] σ0 σ → (∀ i, i < v → σ 829 0 i = L.getD i 0) → ∃ σ', f_X8_takeMessage_12 t (nI k) (nI v) σ = some σ' ∧ Sm [829] σ0 σ' ∧ ∀ i, i < L.length → σ' 829 0 i = L.getD i 0 := by
  intro t
  induction t with
  | zero => intro v σ ht; omega
  | succ t ih =>
    intro v σ ht hv hS hp
    have e1 : σ 828 0 0 = nI L.length := (hS.at (by decide) 0 0).trans h828
    rw [f_X8_takeMessage_12.eq_2, e1]
    by_cases c1 : v = L.length
    · subst c1
      rw [if_pos (nI_le (Nat.le_refl _) (by omega))]
      exact ⟨σ, rfl, hS, hp⟩
    · rw [if_neg (nI_ge (by omega) (by omega)), show (64 : Int32) * nI k + nI v = nI (64 * k + v) from by rw [show (64 : Int32) = nI 64 from rfl, pk_mul, nI_add], gd_p (vin_n (by omega) (by decide)), gd_p (vin_n (by omega) (by decide)), vl_d, cln (by omega), cln (by omega), vl_d, nI_1]
      refine ih (v + 1) _ (by omega) (by omega) (Sm.up (by decide) hS) (fun i hi => ?_)
      rw [up_rd]
      by_cases c : i = v
      · subst c
        rw [if_pos ⟨rfl, rfl, rfl⟩, hS.at (by decide), hm i (by omega)]
      · rw [if_neg (fun q => c q.2.2)]; exact hp i (by omega)
theorem v_takeMessage {σ : Mem} {Q : List Pk} {k : Nat} {p : Pk} (h : MU σ Q) (hk : Q[k]? = some p) : ∃ σ', f_X8_takeMessage (nI k) σ = some σ' ∧ ML σ' p.2 ∧ Sm [828, 829] σ σ' := by
  have hkl := q_lt hk
  obtain ⟨h1, h2, h3⟩ := h
  obtain ⟨a1, a2, a3, a4⟩ := h3 k p hk
  unfold f_X8_takeMessage
  rw [gd_p (vin_n (by omega) (by decide)), vl_d, cln (by omega), a2]
  obtain ⟨σ', e, hS, hp⟩ := v_take_loop (σ0 := up σ 828 0 0 (nI p.2.length)) (L := p.2) (k := k) (by omega) a3 (by rw [up_at]) (fun i hi => by rw [up_fn (by decide)]; exact a4 i hi) 5000 0 _ (by omega) (Nat.zero_le _) Sm.rf (fun i hi => absurd hi (Nat.not_lt_zero i))
  exact ⟨σ', e, ⟨by rw [hS 828 (by decide), up_at], hp⟩, (Sm.up (by decide) Sm.rf).tr (hS.mono (by decide))⟩
theorem v_tape_loop {σ0 : Mem} {L : List Int32} (h830 : σ0 830 0 0 = nI L.length) (hL : L.length ≤ 60) (hm : ∀ i, i < L.length → σ0 831 0 i = L.getD i 0) : ∀ (t v : Nat) (σ : Mem), L.length - v < t → v ≤ L.length → Sm [829] σ0 σ → (∀ i, i < v → σ 829 0 i = L.getD i 0) → ∃ σ', f_X8_takeTape_10 t (nI v) σ = some σ' ∧ Sm [829] σ0 σ' ∧ ∀ i, i < L.length → σ' 829 0 i = L.getD i 0 := by
  intro t
  induction t with
  | zero => intro v σ ht; omega
  | succ t ih =>
    intro v σ ht hv hS hp
    have e1 : σ 830 0 0 = nI L.length := (hS.at (by decide) 0 0).trans h830
    rw [f_X8_takeTape_10.eq_2, e1]
    by_cases c1 : v = L.length
    · subst c1
      rw [if_pos (nI_le (Nat.le_refl _) (by omega))]
      exact ⟨σ, rfl, hS, hp⟩
    · rw [if_neg (nI_ge (by omega) (by omega)), gd_p (vin_n (by omega) (by decide)), gd_p (vin_n (by omega) (by decide)), vl_d, cln (by omega), vl_d, nI_1]
      refine ih (v + 1) _ (by omega) (by omega) (Sm.up (by decide) hS) (fun i hi => ?_)
      rw [up_rd]
      by_cases c : i = v
      · subst c
        rw [if_pos ⟨rfl, rfl, rfl⟩, hS.at (by decide), hm i (by omega)]
      · rw [if_neg (fun q => c q.2.2)]; exact hp i (by omega)
theorem v_takeTape {σ : Mem} {L : List Int32} (h : MT σ L) : ∃ σ', f_X8_takeTape σ = some σ' ∧ ML σ' L ∧ Sm [828, 829] σ σ' := by
  obtain ⟨h1, h2, h3⟩ := h
  unfold f_X8_takeTape
  rw [vl_d, h1]
  obtain ⟨σ', e, hS, hp⟩ := v_tape_loop (σ0 := up σ 828 0 0 (nI L.length)) (L := L) (by rw [up_fn (by decide)]; exact h1) h2 (fun i hi => by rw [up_fn (by decide)]; exact h3 i hi) 5000 0 _ (by omega) (Nat.zero_le _) Sm.rf (fun i hi => absurd hi (Nat.not_lt_zero i))
  exact ⟨σ', e, ⟨by rw [hS 828 (by decide), up_at], hp⟩, (Sm.up (by decide) Sm.rf).tr (hS.mono (by decide))⟩
