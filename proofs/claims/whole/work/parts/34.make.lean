/-! messages that the model makes -/
def MP (σ : Mem) (L : List Int32) : Prop := ∀ i, i < L.length → σ 829 0 i = L.getD i 0
theorem MP.st {σ : Mem} {L : List Int32} {x : Int32} (h : MP σ L) : MP (up σ 829 0 L.length x) (L ++ [x]) := by
  intro i hi
  rw [List.length_append] at hi
  have hi : i < L.length + 1 := hi
  rw [up_rd]
  by_cases e : i = L.length
  · subst e; rw [if_pos ⟨rfl, rfl, rfl⟩, getD_app_r]
  · rw [if_neg (fun q => e q.2.2), getD_app_l (by omega)]; exact h i (by omega)
theorem MP.mv {σ σ' : Mem} {L : List Int32} (h : MP σ L) (e : σ' 829 = σ 829) : MP σ' L := fun i hi => by rw [e]; exact h i hi
theorem v_putFour {σ : Mem} {L : List Int32} (n : Nat) (v : Int32) (h : MP σ L) (hn : n = L.length) (hL : n + 4 ≤ 64) : ∃ σ', f_X8_putFour (nI n) v σ = some σ' ∧ MP σ' (L ++ b4 v) ∧ Sm [829] σ σ' := by
  subst hn
  unfold f_X8_putFour
  rw [gd_p (vin_n (by omega) (by decide)), vl_d, show nI L.length + (1 : Int32) = nI (L.length + 1) from nI_add _ 1, show nI L.length + (2 : Int32) = nI (L.length + 2) from nI_add _ 2, show nI L.length + (3 : Int32) = nI (L.length + 3) from nI_add _ 3, gd_p (vin_n (by omega) (by decide)), vl_d, gd_p (vin_n (by omega) (by decide)), vl_d, gd_p (vin_n (by omega) (by decide)), vl_d, cln (by omega), cln (by omega), cln (by omega), cln (by omega)]
  refine ⟨_, rfl, ?_, Sm.up (by decide) (Sm.up (by decide) (Sm.up (by decide) (Sm.up (by decide) Sm.rf)))⟩
  have a1 := h.st (x := ushr v 24)
  have a2 := a1.st (x := (v >>> ((16 : Int32) &&& 31)) &&& 255)
  have a3 := a2.st (x := (v >>> ((8 : Int32) &&& 31)) &&& 255)
  have a4 := a3.st (x := v &&& 255)
  simp only [List.length_append, List.length_cons, List.length_nil, Nat.zero_add, Nat.add_assoc, Nat.reduceAdd] at a4
  simpa [b4] using a4
theorem v_make {σ : Mem} (op xid ci yi gi ch kind : Int32) : ∃ σ', f_X8_make op xid ci yi gi ch kind σ = some σ' ∧ ML σ' (encH op 0 xid ci yi gi ch kind) ∧ Sm [828, 829] σ σ' := by
  unfold f_X8_make
  rw [gd_p (by decide), vl_d, gd_p (by decide), vl_d]
  have p0 : MP (up (up σ 829 0 0 op) 829 0 1 0) [op, 0] := by
    have h0 : MP σ [] := fun i hi => absurd hi (Nat.not_lt_zero i)
    exact (h0.st (x := op)).st (x := 0)
  have S0 : Sm [829] σ (up (up σ 829 0 0 op) 829 0 1 0) := Sm.up (by decide) (Sm.up (by decide) Sm.rf)
  obtain ⟨s1, e1, p1, S1⟩ := v_putFour 2 xid p0 rfl (by decide)
  have e1 : f_X8_putFour 2 xid (up (up σ 829 0 (0 : Int32).toNatClampNeg op) 829 0 (1 : Int32).toNatClampNeg 0) = some s1 := e1
  rw [e1, bv_s]
  obtain ⟨s2, e2, p2, S2⟩ := v_putFour 6 ci p1 rfl (by decide)
  have e2 : f_X8_putFour 6 ci s1 = some s2 := e2
  rw [e2, bv_s]
  obtain ⟨s3, e3, p3, S3⟩ := v_putFour 10 yi p2 rfl (by decide)
  have e3 : f_X8_putFour 10 yi s2 = some s3 := e3
  rw [e3, bv_s]
  obtain ⟨s4, e4, p4, S4⟩ := v_putFour 14 gi p3 rfl (by decide)
  have e4 : f_X8_putFour 14 gi s3 = some s4 := e4
  rw [e4, bv_s, gd_p (by decide), vl_d, gd_p (by decide), vl_d, gd_p (by decide), vl_d, gd_p (by decide), vl_d, vl_d]
  have p5 := (((p4.st (x := ch)).st (x := 53)).st (x := 1)).st (x := kind)
  refine ⟨_, rfl, ⟨by rw [up_at]; rfl, fun i hi => ?_⟩, Sm.up (by decide) (Sm.up (by decide) (Sm.up (by decide) (Sm.up (by decide) (Sm.up (by decide) ((S0.mono (by decide)).tr ((S1.mono (by decide)).tr ((S2.mono (by decide)).tr ((S3.mono (by decide)).tr (S4.mono (by decide)))))))))) ⟩
  rw [up_fn (by decide)]
  exact p5 i hi
theorem v_option {σ : Mem} {L : List Int32} (code v : Int32) (h : ML σ L) (hv : ¬ v = 0) (hL : L.length + 6 ≤ 64) : ∃ σ', f_X8_option code v σ = some σ' ∧ ML σ' (L ++ o6 code v) ∧ Sm [828, 829] σ σ' := by
  obtain ⟨h1, h2⟩ := h
  have h2 : MP σ L := h2
  unfold f_X8_option
  rw [h1, gd_p (vin_n (by omega) (by decide)), vl_d, up_fn (by decide), h1, show nI L.length + (1 : Int32) = nI (L.length + 1) from nI_add _ 1, gd_p (vin_n (by omega) (by decide)), vl_d, up_fn (by decide), up_fn (by decide), h1, cln (by omega), cln (by omega), show nI L.length + (2 : Int32) = nI (L.length + 2) from nI_add _ 2]
  have p1 := (h2.st (x := code)).st (x := 4)
  rw [show (L ++ [code]).length = L.length + 1 by simp] at p1
  obtain ⟨s1, e1, p2, S1⟩ := v_putFour (L.length + 2) v p1 (by simp) (by omega)
  rw [e1, bv_s, vl_d]
  have e828 : s1 828 0 0 = nI L.length := by rw [S1 828 (by decide), up_fn (by decide), up_fn (by decide)]; exact h1
  refine ⟨_, rfl, ⟨?_, fun i hi => ?_⟩, Sm.up (by decide) ((Sm.up (by decide) (Sm.up (by decide) Sm.rf)).tr (S1.mono (by decide)))⟩
  · rw [up_at, e828, show nI L.length + (6 : Int32) = nI (L.length + 6) from nI_add _ 6]
    unfold o6
    rw [if_neg hv]
    simp [b4]
  · rw [up_fn (by decide)]
    unfold o6
    unfold o6 at hi
    rw [if_neg hv] at hi ⊢
    have := p2 i (by simpa using hi)
    rw [this]
    simp
theorem v_finish {σ : Mem} {L : List Int32} (h : ML σ L) (hL : L.length < 64) : ∃ σ', f_X8_finish σ = some σ' ∧ ML σ' (L ++ [255]) ∧ Sm [828, 829] σ σ' := by
  obtain ⟨h1, h2⟩ := h
  have h2 : MP σ L := h2
  unfold f_X8_finish
  rw [h1, gd_p (vin_n (by omega) (by decide)), vl_d, vl_d, up_fn (by decide), h1, nI_1, cln (by omega)]
  refine ⟨_, rfl, ⟨by rw [up_at, List.length_append]; rfl, fun i hi => ?_⟩, Sm.up (by decide) (Sm.up (by decide) Sm.rf)⟩
  rw [up_fn (by decide)]
  exact (h2.st (x := 255)) i hi
