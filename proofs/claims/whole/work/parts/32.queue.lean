/-! Packets under way: Q is what both sides hold. -/
abbrev Pk : Type := Int32 × List Int32
def qp (Q : List Pk) (p : Pk) : List Pk := if Q.length < 60 then Q ++ [p] else Q
theorem qp_len {Q : List Pk} {p : Pk} (h : Q.length ≤ 60) : (qp Q p).length ≤ 60 := by
  unfold qp
  split
  · rw [List.length_append]; show Q.length + 1 ≤ 60; omega
  · exact h
def pi (σ : Mem) (k : Nat) : Nat := (σ 500 0 k).toNatClampNeg
def CQ (σ : Mem) (Q : List Pk) : Prop := σ 501 0 0 = nI Q.length ∧ Q.length ≤ 60 ∧ (∀ k, k < 60 → pi σ k < 60) ∧ (∀ a b, a < 60 → b < 60 → pi σ a = pi σ b → a = b) ∧ ∀ k p, Q[k]? = some p → σ 301 (pi σ k) 0 = p.1 ∧ BL σ (pi σ k) p.2
theorem q_lt {Q : List Pk} {k : Nat} {p : Pk} (h : Q[k]? = some p) : k < Q.length := (List.getElem?_eq_some_iff.mp h).1
theorem v_grow {σ : Mem} {Q : List Pk} {place : Int32} (h : CQ σ Q) (hn : Q.length < 60) : f_X5_grow place σ = some (1, up (up σ 301 (pi σ Q.length) 0 place) 501 0 0 (nI (Q.length + 1))) := by
  obtain ⟨h1, h2, h3, h4, h5⟩ := h
  unfold f_X5_grow
  rw [h1, if_pos (show nI Q.length < (60 : Int32) from nI_lt hn (by decide)), gd_p (vin_n hn (by decide)), cln (by omega), gd_p (decide_eq_true (show (σ 500 0 Q.length).toNatClampNeg < 60 from h3 _ hn)), vl_d, vl_d]
  rw [up_rd, if_neg (by omega), h1, nI_1]
  rfl
theorem v_growF {σ : Mem} {Q : List Pk} {place : Int32} (h : CQ σ Q) (hn : ¬ Q.length < 60) : f_X5_grow place σ = some (0, up σ 502 0 0 (σ 502 0 0 + 1)) := by
  obtain ⟨h1, h2, -⟩ := h
  unfold f_X5_grow
  rw [h1, if_neg (show ¬ nI Q.length < (60 : Int32) from nI_nlt (a := Q.length) (b := 60) (by omega) (by omega)), vl_d]
theorem BL.mv {σ σ' : Mem} {j : Nat} {L : List Int32} (h : BL σ j L) (h0 : σ' 0 j = σ 0 j) (h1 : σ' 1 j = σ 1 j) : BL σ' j L := ⟨by rw [h1]; exact h.1, fun i hi => by rw [h0]; exact h.2 i hi⟩
/-- the class's row after a packet's bytes have been laid at the end -/
theorem CQ.push {σ σ2 : Mem} {Q : List Pk} {place : Int32} {L : List Int32} (h : CQ σ Q) (hn : Q.length < 60) (hb : BL σ2 (pi σ Q.length) L) (hf : FB (pi σ Q.length) (up (up σ 301 (pi σ Q.length) 0 place) 501 0 0 (nI (Q.length + 1))) σ2) : CQ σ2 (Q ++ [(place, L)]) := by
  obtain ⟨h1, h2, h3, h4, h5⟩ := h
  have e5 : σ2 500 = σ 500 := (hf.1 500 (by decide) (by decide)).trans ((up_fn (by decide)).trans (up_fn (by decide)))
  have ep : ∀ k, pi σ2 k = pi σ k := fun k => by unfold pi; rw [e5]
  have e3 : ∀ j, σ2 301 j 0 = if j = pi σ Q.length then place else σ 301 j 0 := fun j => by
    rw [hf.1 301 (by decide) (by decide), up_rd, if_neg (by omega), up_rd]
    by_cases e : j = pi σ Q.length
    · rw [if_pos ⟨rfl, e, rfl⟩, if_pos e]
    · rw [if_neg (fun q => e q.2.1), if_neg e]
  refine ⟨?_, ?_, fun k hk => by rw [ep]; exact h3 k hk, fun a b ha hb e => h4 a b ha hb (by rw [← ep, ← ep]; exact e), fun k p hk => ?_⟩
  · rw [hf.1 501 (by decide) (by decide), up_at, List.length_append]; rfl
  · rw [List.length_append]; show Q.length + 1 ≤ 60; omega
  · rw [ep, e3]
    have hkl := q_lt hk
    rw [List.length_append] at hkl
    have hkl : k < Q.length + 1 := hkl
    by_cases e : k = Q.length
    · subst e
      rw [List.getElem?_append_right (Nat.le_refl _), Nat.sub_self] at hk
      cases hk
      rw [if_pos rfl]
      exact ⟨rfl, hb⟩
    · rw [List.getElem?_append_left (by omega)] at hk
      have hne : pi σ k ≠ pi σ Q.length := fun q => e (h4 k Q.length (by omega) hn q)
      rw [if_neg hne]
      obtain ⟨a1, a2⟩ := h5 k p hk
      refine ⟨a1, a2.mv ?_ ?_⟩
      · rw [hf.2 0 _ hne, up_fn (by decide), up_fn (by decide)]
      · rw [hf.2 1 _ hne, up_fn (by decide), up_fn (by decide)]
/-- what a posting leaves as it was -/
def FR (σ σ' : Mem) : Prop := Sm [0, 1, 301, 501, 502] σ σ' ∧ ∀ f j, 60 ≤ j → σ' f j = σ f j
theorem FR.at {σ σ' : Mem} (h : FR σ σ') {f : Nat} (hf : f ∉ [0, 1, 301, 501, 502]) (j i : Nat) : σ' f j i = σ f j i := by rw [h.1 f hf]
theorem CQ.lost {σ : Mem} {Q : List Pk} {x : Int32} (h : CQ σ Q) : CQ (up σ 502 0 0 x) Q := by
  obtain ⟨h1, h2, h3, h4, h5⟩ := h
  have ep : ∀ k, pi (up σ 502 0 0 x) k = pi σ k := fun k => by unfold pi; rw [up_fn (by decide)]
  refine ⟨by rw [up_rd, if_neg (by omega)]; exact h1, h2, fun k hk => by rw [ep]; exact h3 k hk, fun a b ha hb e => h4 a b ha hb (by rw [← ep, ← ep]; exact e), fun k p hk => ?_⟩
  rw [ep, up_rd, if_neg (by omega)]
  obtain ⟨a1, a2⟩ := h5 k p hk
  exact ⟨a1, a2.mv (by rw [up_fn (by decide)]) (by rw [up_fn (by decide)])⟩
theorem FR.ofB {σ σ2 : Mem} {j : Nat} {place x : Int32} (hj : j < 60) (hf : FB j (up (up σ 301 j 0 place) 501 0 0 x) σ2) : FR σ σ2 := by
  refine ⟨fun f hf2 => ?_, fun f j2 hj2 => ?_⟩
  · simp only [List.mem_cons, List.not_mem_nil, or_false, not_or] at hf2
    rw [hf.1 f hf2.1 hf2.2.1, up_fn hf2.2.2.2.1, up_fn hf2.2.2.1]
  · rw [hf.2 f j2 (by omega), up_fj (by omega), up_fj (by omega)]
theorem v_post {σ : Mem} {Q : List Pk} {place : Int32} {j : Nat} (h : CQ σ Q) (hp : ¬ place = -1) : ∃ σ', f_X5_post place j σ = some σ' ∧ CQ σ' (qp Q (place, mEnc σ j)) ∧ σ' 502 0 0 = (if Q.length < 60 then σ 502 0 0 else σ 502 0 0 + 1) ∧ FR σ σ' := by
  unfold f_X5_post
  rw [if_neg hp]
  by_cases hn : Q.length < 60
  · have h3 := h.2.2.1
    rw [v_grow h hn, bn_s, if_neg (by decide), up_at, nI_pred, gd_p (vin_n hn (by decide)), cln (by omega)]
    rw [show up (up σ 301 (pi σ Q.length) 0 place) 501 0 0 (nI (Q.length + 1)) 500 0 Q.length = σ 500 0 Q.length by rw [up_fn (by decide), up_fn (by decide)]]
    rw [gd_p (decide_eq_true (show (σ 500 0 Q.length).toNatClampNeg < 60 from h3 _ hn))]
    obtain ⟨σ2, e1, b1, g1⟩ := v_write (σ := up (up σ 301 (pi σ Q.length) 0 place) 501 0 0 (nI (Q.length + 1))) (j0 := j) (j := pi σ Q.length)
    have e1 : f_X2_write j (σ 500 0 Q.length).toNatClampNeg (up (up σ 301 (pi σ Q.length) 0 place) 501 0 0 (nI (Q.length + 1))) = some σ2 := e1
    rw [e1, bv_s]
    have em : mEnc (up (up σ 301 (pi σ Q.length) 0 place) 501 0 0 (nI (Q.length + 1))) j = mEnc σ j := by
      unfold mEnc
      simp only [up_rd]
      rfl
    rw [em] at b1
    refine ⟨σ2, rfl, ?_, ?_, FR.ofB (h3 _ hn) g1⟩
    · unfold qp
      rw [if_pos hn]
      exact h.push hn b1 g1
    · rw [if_pos hn, g1.1 502 (by decide) (by decide), up_fn (by decide), up_fn (by decide)]
  · rw [v_growF h hn, bn_s, if_pos rfl]
    refine ⟨_, rfl, ?_, by rw [up_at, if_neg hn], fun f hf => up_fn (by simp only [List.mem_cons, List.not_mem_nil, or_false, not_or] at hf; exact hf.2.2.2.2), fun f j2 hj2 => up_fj (by omega)⟩
    unfold qp
    rw [if_neg hn]
    exact h.lost
theorem v_copy {σ : Mem} {j0 j1 : Nat} {L : List Int32} (hL : L.length ≤ 60) (hne : j0 ≠ j1) (h : BL σ j1 L) : ∃ σ', f_X0_copy j0 j1 σ = some σ' ∧ BL σ' j0 L ∧ FB j0 σ σ' := by
  obtain ⟨h1, h2⟩ := h
  unfold f_X0_copy
  rw [h1, gd_p (decide_eq_true (nI_pos (by omega))), cln (by omega), gd_p (decide_eq_true hL), vl_d, vl_d]
  refine ⟨_, rfl, ⟨?_, fun i hi => ?_⟩, ⟨fun f a b => (up_fn b).trans (by unfold upA; rw [if_neg a]), fun f j a => (up_fj a).trans ?_⟩⟩
  · rw [up_at, upA_rd, if_neg (by omega)]; exact h1
  · rw [up_fn (by decide), upA_rd, if_pos ⟨rfl, rfl⟩]
    rw [pk_cpy_in (by omega) (by omega)]
    simpa using h2 i hi
  · funext i
    rw [upA_rd, if_neg (fun q => a q.2)]
theorem v_postBytes {σ : Mem} {Q : List Pk} {place : Int32} {j : Nat} {L : List Int32} (h : CQ σ Q) (hj : 60 ≤ j) (hb : BL σ j L) (hL : L.length ≤ 60) : ∃ σ', f_X5_postBytes place j σ = some σ' ∧ CQ σ' (qp Q (place, L)) ∧ σ' 502 0 0 = (if Q.length < 60 then σ 502 0 0 else σ 502 0 0 + 1) ∧ FR σ σ' := by
  unfold f_X5_postBytes
  by_cases hn : Q.length < 60
  · have h3 := h.2.2.1
    rw [v_grow h hn, bn_s, if_neg (by decide), up_at, nI_pred, gd_p (vin_n hn (by decide)), cln (by omega)]
    rw [show up (up σ 301 (pi σ Q.length) 0 place) 501 0 0 (nI (Q.length + 1)) 500 0 Q.length = σ 500 0 Q.length by rw [up_fn (by decide), up_fn (by decide)]]
    rw [gd_p (decide_eq_true (show (σ 500 0 Q.length).toNatClampNeg < 60 from h3 _ hn))]
    have hb2 : BL (up (up σ 301 (pi σ Q.length) 0 place) 501 0 0 (nI (Q.length + 1))) j L := hb.mv (by rw [up_fn (by decide), up_fn (by decide)]) (by rw [up_fn (by decide), up_fn (by decide)])
    have hpi := h3 _ hn
    obtain ⟨σ2, e1, b1, g1⟩ := v_copy (j0 := pi σ Q.length) hL (by omega) hb2
    have e1 : f_X0_copy (σ 500 0 Q.length).toNatClampNeg j (up (up σ 301 (pi σ Q.length) 0 place) 501 0 0 (nI (Q.length + 1))) = some σ2 := e1
    rw [e1, bv_s]
    refine ⟨σ2, rfl, ?_, ?_, FR.ofB hpi g1⟩
    · unfold qp
      rw [if_pos hn]
      exact h.push hn b1 g1
    · rw [if_pos hn, g1.1 502 (by decide) (by decide), up_fn (by decide), up_fn (by decide)]
  · rw [v_growF h hn, bn_s, if_pos rfl]
    refine ⟨_, rfl, ?_, by rw [up_at, if_neg hn], fun f hf => up_fn (by simp only [List.mem_cons, List.not_mem_nil, or_false, not_or] at hf; exact hf.2.2.2.2), fun f j2 hj2 => up_fj (by omega)⟩
    unfold qp
    rw [if_neg hn]
    exact h.lost
