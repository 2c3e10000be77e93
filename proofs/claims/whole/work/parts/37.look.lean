/-! the model reads a message -/
def ms4 (σ : Mem) : St4 := (σ 833 0 0, σ 834 0 0, σ 835 0 0, σ 836 0 0)
theorem ML.mv {σ σ' : Mem} {L : List Int32} (h : ML σ L) (a : σ' 828 = σ 828) (b : σ' 829 = σ 829) : ML σ' L := ⟨by rw [a]; exact h.1, fun i hi => by rw [b]; exact h.2 i hi⟩
theorem v_fourAt {σ : Mem} {L : List Int32} {a : Nat} (h : ML σ L) (hL : L.length ≤ 60) (ha : a + 4 ≤ L.length) : f_X8_fourAt (nI a) σ = some (fr L a, σ) := by
  unfold f_X8_fourAt
  rw [show nI a + (1 : Int32) = nI (a + 1) from nI_add _ 1, show nI a + (2 : Int32) = nI (a + 2) from nI_add _ 2, show nI a + (3 : Int32) = nI (a + 3) from nI_add _ 3, gd_p (vin_n (by omega) (by decide)), gd_p (vin_n (by omega) (by decide)), gd_p (vin_n (by omega) (by decide)), gd_p (vin_n (by omega) (by decide)), cln (by omega), cln (by omega), cln (by omega), cln (by omega), h.2 a (by omega), h.2 (a + 1) (by omega), h.2 (a + 2) (by omega), h.2 (a + 3) (by omega)]
  rfl
abbrev LK5 : List Nat := [832, 833, 834, 835, 836]
theorem v_look_loop {L : List Int32} (hL : L.length ≤ 60) (hB : BY L) : ∀ (t i : Nat) (σ : Mem), ML σ L → L.length - i < t → i ≤ 60 → σ 832 0 0 = 0 → ∃ σ', f_X8_look_74 t (nI i) 1 σ = some σ' ∧ Sm LK5 σ σ' ∧ (po L t i (ms4 σ) = none → σ' 832 0 0 = 1) ∧ ∀ s, po L t i (ms4 σ) = some s → σ' 832 0 0 = 0 ∧ ms4 σ' = s := by
  intro t
  induction t with
  | zero => intro i σ h ht; omega
  | succ t ih =>
    intro i σ h ht hi h0
    have bad : ∃ σ', f_X8_look_208 σ = some σ' ∧ Sm LK5 σ σ' ∧ ((none : Option St4) = none → σ' 832 0 0 = 1) ∧ ∀ s, (none : Option St4) = some s → σ' 832 0 0 = 0 ∧ ms4 σ' = s :=
      ⟨_, rfl, Sm.up (by decide) Sm.rf, fun _ => by rw [up_at], fun s hs => by cases hs⟩
    rw [f_X8_look_74.eq_2, h.1, if_neg (by decide)]
    unfold po
    by_cases c1 : L.length ≤ i
    · rw [if_neg (nI_nlt c1 (by omega)), if_pos c1]
      exact bad
    · rw [if_pos (nI_lt (by omega) (by omega)), if_neg c1, gd_p (vin_n (by omega) (by decide)), cln (by omega), h.2 i (by omega)]
      generalize L.getD i 0 = code
      by_cases c2 : code = 255
      · rw [if_pos c2, if_pos c2]
        exact ⟨_, rfl, Sm.rf, fun hs => (by cases hs), fun s hs => ⟨h0, (by cases hs; rfl)⟩⟩
      · rw [if_neg c2, if_neg c2]
        by_cases c3 : code = 0
        · rw [if_pos c3, if_pos c3, vl_d, nI_1]
          unfold f_X8_look_234
          exact ih (i + 1) σ h (by omega) (by omega) h0
        · rw [if_neg c3, if_neg c3, show nI i + (1 : Int32) = nI (i + 1) from nI_1 i]
          have key : ∀ (x : Int32), f_X8_look_141 (f_X8_look_74 t) (nI i) 1 code x σ = f_X8_look_172 (f_X8_look_74 t) (nI i) 1 code x (if code = 53 ∨ code = 50 ∨ code = 51 ∨ code = 54 then 1 else 0) σ := by
            intro x
            unfold f_X8_look_141 f_X8_look_167
            by_cases k53 : code = 53
            · simp [k53]
            · by_cases k50 : code = 50
              · simp [k50]
              · by_cases k51 : code = 51
                · simp [k51]
                · by_cases k54 : code = 54
                  · simp [k54]
                  · simp [k53, k50, k51, k54]
          by_cases c4 : L.length ≤ i + 1
          · rw [if_pos (nI_le c4 (by omega)), if_pos c4, key]
            unfold f_X8_look_172
            rw [h.1, show nI i + (2 : Int32) = nI (i + 2) from nI_add i 2, show nI (i + 2) + (1000 : Int32) = nI (i + 2 + 1000) from nI_add _ 1000, if_pos (nI_lt (by omega) (by omega))]
            exact bad
          · rw [if_neg (nI_ge (by omega) (by omega)), if_neg c4, gd_p (vin_n (by omega) (by decide)), cln (by omega), h.2 (i + 1) (by omega), key]
            obtain ⟨z, hz, ez⟩ := hB (i + 1)
            unfold f_X8_look_172
            rw [h.1, ez, show nI i + (2 : Int32) = nI (i + 2) from nI_add i 2, nI_add, cln (by omega)]
            by_cases c5 : L.length < i + 2 + z
            · rw [if_pos (nI_lt c5 (by omega)), if_pos c5]
              exact bad
            · rw [if_neg (nI_nlt (by omega) (by omega)), if_neg c5]
              have nx : ∀ τ : Mem, f_X8_look_227 (f_X8_look_74 t) (nI i) 1 (nI z) τ = f_X8_look_74 t (nI (i + 2 + z)) 1 τ := by
                intro τ
                unfold f_X8_look_227 f_X8_look_234
                rw [vl_d, show nI i + (2 : Int32) = nI (i + 2) from nI_add i 2, nI_add]
              have four : ∀ (z1 : Int32) (g : Nat), g ∈ [834, 835, 836] → z1 = 4 → z1 = nI z → (∀ τ : Mem, f_X8_takeOption code (nI (i + 2)) τ = bn (f_X8_fourAt (nI (i + 2)) τ) (fun r s => vl (up s g 0 0 r) (fun q => some q))) → ∃ σ', f_X8_look_214 (f_X8_look_74 t) (nI i) 1 code (nI z) 1 σ = some σ' ∧ Sm LK5 σ σ' ∧ (po L t (i + 2 + z) (ms4 (up σ g 0 0 (fr L (i + 2)))) = none → σ' 832 0 0 = 1) ∧ ∀ s, po L t (i + 2 + z) (ms4 (up σ g 0 0 (fr L (i + 2)))) = some s → σ' 832 0 0 = 0 ∧ ms4 σ' = s := by
                intro z1 g hg h4 hz1 ht2
                have ez4 : z = 4 := (nI_eq (b := 4) (by omega) (by decide)).mp (hz1.symm.trans h4)
                unfold f_X8_look_214
                rw [if_neg (by decide), show nI i + (2 : Int32) = nI (i + 2) from nI_add i 2, ht2, v_fourAt h hL (by omega), bn_s, vl_d, bv_s, nx]
                have hgL : g ∈ LK5 := by simp only [List.mem_cons, List.not_mem_nil, or_false] at hg ⊢; omega
                have hgn : g ≠ 828 ∧ g ≠ 829 ∧ g ≠ 832 := by simp only [List.mem_cons, List.not_mem_nil, or_false] at hg; omega
                obtain ⟨σ', e, S, p1, p2⟩ := ih (i + 2 + z) (up σ g 0 0 (fr L (i + 2))) (h.mv (up_fn (Ne.symm hgn.1)) (up_fn (Ne.symm hgn.2.1))) (by omega) (by omega) (by rw [up_fn (Ne.symm hgn.2.2)]; exact h0)
                exact ⟨σ', e, (Sm.up hgL Sm.rf).tr S, p1, p2⟩
              by_cases k53 : code = 53
              · subst k53
                rw [if_pos (Or.inl rfl), if_neg (by decide), if_pos rfl, if_pos rfl]
                unfold f_X8_look_205
                by_cases q : nI z = 1
                · rw [if_pos q, if_pos q]
                  have ez1 : z = 1 := (nI_eq (b := 1) (by omega) (by decide)).mp q
                  unfold f_X8_look_214 f_X8_takeOption
                  rw [if_neg (by decide), if_pos rfl, show nI i + (2 : Int32) = nI (i + 2) from nI_add i 2, gd_p (vin_n (by omega) (by decide)), vl_d, bv_s, nx, cln (by omega), h.2 (i + 2) (by omega)]
                  obtain ⟨σ', e, S, p1, p2⟩ := ih (i + 2 + z) (up σ 833 0 0 (L.getD (i + 2) 0)) (h.mv (up_fn (by decide)) (up_fn (by decide))) (by omega) (by omega) (by rw [up_fn (by decide)]; exact h0)
                  have em : ms4 (up σ 833 0 0 (L.getD (i + 2) 0)) = (L.getD (i + 2) 0, (ms4 σ).2) := by
                    generalize L.getD (i + 2) 0 = y
                    simp [ms4, up_rd]
                  rw [em] at p1 p2
                  exact ⟨σ', e, (Sm.up (by decide) Sm.rf).tr S, p1, p2⟩
                · rw [if_neg q, if_neg q]
                  exact bad
              · by_cases k50 : code = 50
                · subst k50
                  rw [if_pos (Or.inr (Or.inl rfl)), if_neg (by decide), if_neg (by decide), if_neg (by decide), if_pos rfl]
                  unfold f_X8_look_205
                  by_cases q : nI z = 4
                  · rw [if_pos q, if_pos q]
                    have := four 4 834 (by decide) rfl q.symm (fun τ => by unfold f_X8_takeOption; rw [if_neg (by decide), if_pos rfl])
                    rwa [show ms4 (up σ 834 0 0 (fr L (i + 2))) = ((ms4 σ).1, fr L (i + 2), (ms4 σ).2.2) by simp [ms4, up_rd]] at this
                  · rw [if_neg q, if_neg q]
                    exact bad
                · by_cases k51 : code = 51
                  · subst k51
                    rw [if_pos (Or.inr (Or.inr (Or.inl rfl))), if_neg (by decide), if_neg (by decide), if_neg (by decide), if_neg (by decide), if_pos rfl]
                    unfold f_X8_look_205
                    by_cases q : nI z = 4
                    · rw [if_pos q, if_pos q]
                      have := four 4 835 (by decide) rfl q.symm (fun τ => by unfold f_X8_takeOption; rw [if_neg (by decide), if_neg (by decide), if_pos rfl])
                      rwa [show ms4 (up σ 835 0 0 (fr L (i + 2))) = ((ms4 σ).1, (ms4 σ).2.1, fr L (i + 2), (ms4 σ).2.2.2) by simp [ms4, up_rd]] at this
                    · rw [if_neg q, if_neg q]
                      exact bad
                  · by_cases k54 : code = 54
                    · subst k54
                      rw [if_pos (Or.inr (Or.inr (Or.inr rfl))), if_neg (by decide), if_neg (by decide), if_neg (by decide), if_neg (by decide), if_neg (by decide), if_pos rfl]
                      unfold f_X8_look_205
                      by_cases q : nI z = 4
                      · rw [if_pos q, if_pos q]
                        have := four 4 836 (by decide) rfl q.symm (fun τ => by unfold f_X8_takeOption; rw [if_neg (by decide), if_neg (by decide), if_neg (by decide)])
                        rwa [show ms4 (up σ 836 0 0 (fr L (i + 2))) = ((ms4 σ).1, (ms4 σ).2.1, (ms4 σ).2.2.1, fr L (i + 2)) by simp [ms4, up_rd]] at this
                      · rw [if_neg q, if_neg q]
                        exact bad
                    · rw [if_neg (show ¬ (code = 53 ∨ code = 50 ∨ code = 51 ∨ code = 54) from fun q => q.elim k53 (fun q => q.elim k50 (fun q => q.elim k51 k54))), if_pos rfl, if_neg k53, if_neg k50, if_neg k51, if_neg k54]
                      unfold f_X8_look_214
                      rw [if_pos rfl, nx]
                      exact ih (i + 2 + z) σ h (by omega) (by omega) h0
theorem v_look {σ : Mem} {L : List Int32} (h : ML σ L) (hL : L.length ≤ 60) (hB : BY L) : ∃ σ', f_X8_look σ = some σ' ∧ Sm LK5 σ σ' ∧ (PM L = none → σ' 832 0 0 = 1) ∧ ∀ s, PM L = some s → σ' 832 0 0 = 0 ∧ ms4 σ' = s := by
  unfold f_X8_look
  rw [vl_d, vl_d, vl_d, vl_d]
  generalize hs : up (up (up (up σ 833 0 0 (-1)) 834 0 0 0) 835 0 0 0) 836 0 0 0 = s7
  have S7 : Sm LK5 σ s7 := by rw [← hs]; exact Sm.up (by decide) (Sm.up (by decide) (Sm.up (by decide) (Sm.up (by decide) Sm.rf)))
  have m7 : ms4 s7 = (-1, 0, 0, 0) := by rw [← hs]; simp [ms4, up_rd]
  have h7 : ML s7 L := h.mv (S7 828 (by decide)) (S7 829 (by decide))
  have bad : ∃ σ', f_X8_look_50 s7 = some σ' ∧ Sm LK5 σ σ' ∧ ((none : Option St4) = none → σ' 832 0 0 = 1) ∧ ∀ s, (none : Option St4) = some s → σ' 832 0 0 = 0 ∧ ms4 σ' = s := by
    unfold f_X8_look_50 f_X8_look_55
    rw [gd_p (by decide), vl_d, up_at, if_neg (by decide)]
    unfold f_X8_look_73
    rw [show (5000 : Nat) = 4999 + 1 from rfl, f_X8_look_74.eq_2, if_pos rfl]
    exact ⟨_, rfl, Sm.up (by decide) S7, fun _ => by rw [up_at], fun s hs => by cases hs⟩
  unfold PM
  rw [h7.1]
  by_cases c1 : L.length < 19
  · rw [if_pos (show nI L.length < (19 : Int32) from nI_lt (b := 19) c1 (by decide)), if_pos c1]
    exact bad
  · rw [if_neg (show ¬ nI L.length < (19 : Int32) from nI_nlt (a := L.length) (b := 19) (by omega) (by omega)), if_neg c1, gd_p (by decide), gd_p (by decide)]
    have x0 : s7 829 0 (0 : Int32).toNatClampNeg = L.getD 0 0 := h7.2 0 (by omega)
    rw [x0]
    obtain ⟨n, hn, en⟩ := hB 0
    rw [en]
    by_cases c2 : n < 1
    · rw [if_pos (show nI n < (1 : Int32) from nI_lt (b := 1) c2 (by decide)), if_neg (by
        intro q
        rcases q with q | q
        · have := (nI_eq (a := n) (b := 1) (by omega) (by decide)).mp q; omega
        · have := (nI_eq (a := n) (b := 2) (by omega) (by decide)).mp q; omega)]
      exact bad
    · rw [if_neg (show ¬ nI n < (1 : Int32) from nI_nlt (a := n) (b := 1) (by omega) (by omega))]
      by_cases c3 : n ≤ 2
      · rw [if_pos (show nI n ≤ (2 : Int32) from nI_le (b := 2) c3 (by decide)), if_pos (by
          rcases (show n = 1 ∨ n = 2 by omega) with rfl | rfl
          · exact Or.inl rfl
          · exact Or.inr rfl)]
        unfold f_X8_look_55
        rw [gd_p (by decide), vl_d, up_at, if_pos rfl]
        unfold f_X8_look_73
        obtain ⟨σ', e, S, p1, p2⟩ := v_look_loop hL hB 5000 19 (up s7 832 0 0 0) (h7.mv (up_fn (by decide)) (up_fn (by decide))) (by omega) (by omega) (up_at _ _ _ _ _)
        rw [show ms4 (up s7 832 0 0 0) = ms4 s7 by simp [ms4, up_rd], m7] at p1 p2
        exact ⟨σ', e, (Sm.up (by decide) S7).tr S, p1, p2⟩
      · rw [if_neg (show ¬ nI n ≤ (2 : Int32) from nI_ge (a := 2) (b := n) (by omega) (by omega)), if_neg (by
          intro q
          rcases q with q | q
          · have := (nI_eq (a := n) (b := 1) (by omega) (by decide)).mp q; omega
          · have := (nI_eq (a := n) (b := 2) (by omega) (by decide)).mp q; omega)]
        exact bad
