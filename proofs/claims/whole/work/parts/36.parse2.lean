theorem hs4.mv {σ σ' : Mem} {j : Nat} (h : ∀ f, f = 207 ∨ f = 208 ∨ f = 209 ∨ f = 210 → σ' f j 0 = σ f j 0) : hs4 σ' j = hs4 σ j := by
  unfold hs4
  rw [h 207 (by simp), h 208 (by simp), h 209 (by simp), h 210 (by simp)]
theorem nI_inj {a b : Nat} (ha : a < 2 ^ 31) (hb : b < 2 ^ 31) (h : a ≠ b) : ¬ nI a = nI b := fun q => h ((nI_eq ha hb).mp q)
theorem v_readOptions_loop {L : List Int32} {j0 j : Nat} (hL : L.length ≤ 60) (hB : BY L) : ∀ (t i : Nat) (σ : Mem), BL σ j L → L.length - i < t → i ≤ 60 → ∃ r σ', f_X2_readOptions_3 t j0 j (nI i) σ = some (r, σ') ∧ FH j0 [207, 208, 209, 210] σ σ' ∧ (po L t i (hs4 σ j0) = none → r = 0) ∧ ∀ s, po L t i (hs4 σ j0) = some s → r = 1 ∧ hs4 σ' j0 = s := by
  intro t
  induction t with
  | zero => intro i σ h ht; omega
  | succ t ih =>
    intro i σ h ht hi
    rw [f_X2_readOptions_3.eq_2, h.1]
    unfold po
    by_cases c1 : L.length ≤ i
    · rw [if_pos (nI_le c1 (by omega)), if_pos c1]
      exact ⟨_, _, rfl, FH.rf, fun _ => rfl, fun s hs => by cases hs⟩
    · rw [if_neg (nI_ge (by omega) (by omega)), if_neg c1, gd_p (vin_n (by omega) (by decide)), cln (by omega), h.2 i (by omega)]
      by_cases c2 : L.getD i 0 = 255
      · rw [if_pos c2, if_pos c2]
        exact ⟨_, _, rfl, FH.rf, fun hs => (by cases hs), fun s hs => ⟨rfl, (by cases hs; rfl)⟩⟩
      · rw [if_neg c2, if_neg c2]
        by_cases c3 : L.getD i 0 = 0
        · rw [if_pos c3, if_pos c3, vl_d, nI_1]
          exact ih (i + 1) σ h (by omega) (by omega)
        · rw [if_neg c3, if_neg c3, show nI i + (1 : Int32) = nI (i + 1) from nI_1 i]
          by_cases c4 : L.length ≤ i + 1
          · rw [if_neg (nI_nlt c4 (by omega)), if_pos c4]
            exact ⟨_, _, rfl, FH.rf, fun _ => rfl, fun s hs => by cases hs⟩
          · rw [if_pos (nI_lt (by omega) (by omega)), if_neg c4, gd_p (vin_n (by omega) (by decide)), cln (by omega), h.2 (i + 1) (by omega)]
            obtain ⟨z, hz, ez⟩ := hB (i + 1)
            rw [ez, show nI i + (2 : Int32) = nI (i + 2) from nI_add i 2, nI_add, cln (by omega)]
            by_cases c5 : L.length < i + 2 + z
            · rw [if_pos (nI_lt c5 (by omega)), if_pos c5]
              exact ⟨_, _, rfl, FH.rf, fun _ => rfl, fun s hs => by cases hs⟩
            · rw [if_neg (nI_nlt (by omega) (by omega)), if_neg c5]
              obtain ⟨r, σ1, e1, g1, hr, hst, hiff⟩ := v_readOption (j0 := j0) (a := i + 2) (L.getD i 0) (nI z) h hL (by rw [cln (by omega)]; omega)
              rw [e1, bn_s]
              have e53 : (nI z = 1) ↔ z = 1 := nI_eq (b := 1) (by omega) (by decide)
              have b1 : BL σ1 j L := h.mv (by rw [g1.1 0 (by decide)]) (by rw [g1.1 1 (by decide)])
              have nx : nI i + ((2 : Int32) + nI z) = nI (i + 2 + z) := by rw [show (2 : Int32) = nI 2 from rfl, nI_add, nI_add, Nat.add_assoc]
              by_cases c6 : r = 0
              · rw [if_pos c6]
                have hn : ¬ r = 1 := by rw [c6]; decide
                have hno := mt hiff.mpr hn
                refine ⟨_, _, rfl, g1, fun _ => rfl, fun s hs => ?_⟩
                exfalso
                apply hno
                by_cases k53 : L.getD i 0 = 53
                · rw [if_pos k53] at hs
                  by_cases q : nI z = 1
                  · rw [k53]; exact ⟨fun _ => q, fun e => absurd e (by decide), fun e => absurd e (by decide), fun e => absurd e (by decide)⟩
                  · rw [if_neg q] at hs; cases hs
                · rw [if_neg k53] at hs
                  by_cases k50 : L.getD i 0 = 50
                  · rw [if_pos k50] at hs
                    by_cases q : nI z = 4
                    · exact ⟨fun e => absurd e k53, fun _ => q, fun _ => q, fun _ => q⟩
                    · rw [if_neg q] at hs; cases hs
                  · rw [if_neg k50] at hs
                    by_cases k51 : L.getD i 0 = 51
                    · rw [if_pos k51] at hs
                      by_cases q : nI z = 4
                      · exact ⟨fun e => absurd e k53, fun _ => q, fun _ => q, fun _ => q⟩
                      · rw [if_neg q] at hs; cases hs
                    · rw [if_neg k51] at hs
                      by_cases k54 : L.getD i 0 = 54
                      · rw [if_pos k54] at hs
                        by_cases q : nI z = 4
                        · exact ⟨fun e => absurd e k53, fun _ => q, fun _ => q, fun _ => q⟩
                        · rw [if_neg q] at hs; cases hs
                      · exact ⟨fun e => absurd e k53, fun e => absurd e k50, fun e => absurd e k51, fun e => absurd e k54⟩
              · rw [if_neg c6, vl_d, nx]
                have hr1 : r = 1 := hr.resolve_left c6
                obtain ⟨w53, w50, w51, w54⟩ := hiff.mp hr1
                have hst := hst hr1
                obtain ⟨r2, σ2, e2, g2, p1, p2⟩ := ih (i + 2 + z) σ1 b1 (by omega) (by omega)
                refine ⟨r2, σ2, e2, g1.tr g2, ?_, ?_⟩
                · rw [hst] at p1
                  by_cases k53 : L.getD i 0 = 53
                  · rw [if_pos k53, if_pos (w53 k53)]; rw [if_pos k53] at p1; exact p1
                  · rw [if_neg k53]; rw [if_neg k53] at p1
                    by_cases k50 : L.getD i 0 = 50
                    · rw [if_pos k50, if_pos (w50 k50)]; rw [if_pos k50] at p1; exact p1
                    · rw [if_neg k50]; rw [if_neg k50] at p1
                      by_cases k51 : L.getD i 0 = 51
                      · rw [if_pos k51, if_pos (w51 k51)]; rw [if_pos k51] at p1; exact p1
                      · rw [if_neg k51]; rw [if_neg k51] at p1
                        by_cases k54 : L.getD i 0 = 54
                        · rw [if_pos k54, if_pos (w54 k54)]; rw [if_pos k54] at p1; exact p1
                        · rw [if_neg k54]; rw [if_neg k54] at p1; exact p1
                · rw [hst] at p2
                  by_cases k53 : L.getD i 0 = 53
                  · rw [if_pos k53, if_pos (w53 k53)]; rw [if_pos k53] at p2; exact p2
                  · rw [if_neg k53]; rw [if_neg k53] at p2
                    by_cases k50 : L.getD i 0 = 50
                    · rw [if_pos k50, if_pos (w50 k50)]; rw [if_pos k50] at p2; exact p2
                    · rw [if_neg k50]; rw [if_neg k50] at p2
                      by_cases k51 : L.getD i 0 = 51
                      · rw [if_pos k51, if_pos (w51 k51)]; rw [if_pos k51] at p2; exact p2
                      · rw [if_neg k51]; rw [if_neg k51] at p2
                        by_cases k54 : L.getD i 0 = 54
                        · rw [if_pos k54, if_pos (w54 k54)]; rw [if_pos k54] at p2; exact p2
                        · rw [if_neg k54]; rw [if_neg k54] at p2; exact p2
/-- the heard message's parts -/
def hd7 (σ : Mem) (L : List Int32) : Prop := σ 200 0 0 = L.getD 0 0 ∧ σ 201 0 0 = L.getD 1 0 ∧ σ 202 0 0 = fr L 2 ∧ σ 203 0 0 = fr L 6 ∧ σ 204 0 0 = fr L 10 ∧ σ 205 0 0 = fr L 14 ∧ σ 206 0 0 = L.getD 18 0
abbrev HS : List Nat := [200, 201, 202, 203, 204, 205, 206, 207, 208, 209, 210]
theorem v_start {σ : Mem} (j : Nat) (a b c : Int32) : ∃ σ', f_X2_start j a b c σ = some σ' ∧ FH j HS σ σ' ∧ σ' 200 j 0 = a ∧ σ' 201 j 0 = 0 ∧ σ' 202 j 0 = b ∧ σ' 203 j 0 = 0 ∧ σ' 204 j 0 = 0 ∧ σ' 205 j 0 = 0 ∧ σ' 206 j 0 = c ∧ hs4 σ' j = (-1, 0, 0, 0) := by
  unfold f_X2_start
  simp only [vl_d]
  refine ⟨_, rfl, FH.up (by decide) (FH.up (by decide) (FH.up (by decide) (FH.up (by decide) (FH.up (by decide) (FH.up (by decide) (FH.up (by decide) (FH.up (by decide) (FH.up (by decide) (FH.up (by decide) (FH.up (by decide) FH.rf)))))))))), ?_⟩
  simp [hs4, up_rd]
theorem v_read {σ : Mem} {j : Nat} {L : List Int32} (h : BL σ j L) (hL : L.length ≤ 60) (hB : BY L) : ∃ r σ', f_X2_read 0 j σ = some (r, σ') ∧ FH 0 HS σ σ' ∧ (PM L = none → r = 0) ∧ ∀ s, PM L = some s → r = 1 ∧ hd7 σ' L ∧ hs4 σ' 0 = s := by
  unfold f_X2_read PM
  rw [h.1]
  by_cases c1 : L.length < 19
  · rw [if_neg (show ¬ (19 : Int32) ≤ nI L.length from nI_ge (a := L.length) (b := 19) c1 (by decide)), if_pos c1]
    exact ⟨_, _, rfl, FH.rf, fun _ => rfl, fun s hs => by cases hs⟩
  · rw [if_pos (show (19 : Int32) ≤ nI L.length from nI_le (a := 19) (by omega) (by omega)), if_neg c1, gd_p (by decide)]
    have n2 := v_number (a := 2) h hL (by omega)
    have n2 : f_X0_number j 2 σ = some (fr L 2, σ) := n2
    rw [n2, bn_s, gd_p (by decide)]
    obtain ⟨s1, e1, g1, q0, q1, q2, q3, q4, q5, q6, q7⟩ := v_start (σ := σ) 0 (σ 0 j (0 : Int32).toNatClampNeg) (fr L 2) (σ 0 j (18 : Int32).toNatClampNeg)
    rw [e1, bv_s, gd_p (by decide), vl_d]
    have x0 : σ 0 j (0 : Int32).toNatClampNeg = L.getD 0 0 := h.2 0 (by omega)
    have x18 : σ 0 j (18 : Int32).toNatClampNeg = L.getD 18 0 := h.2 18 (by omega)
    have b1 : BL s1 j L := h.mv (by rw [g1.1 0 (by decide)]) (by rw [g1.1 1 (by decide)])
    have x1 : s1 0 j (1 : Int32).toNatClampNeg = L.getD 1 0 := b1.2 1 (by omega)
    have g2 : FH 0 HS σ (up s1 201 0 0 (s1 0 j (1 : Int32).toNatClampNeg)) := FH.up (by decide) g1
    have b2 : BL (up s1 201 0 0 (s1 0 j (1 : Int32).toNatClampNeg)) j L := b1.mv (by rw [up_fn (by decide)]) (by rw [up_fn (by decide)])
    have n6 : f_X0_number j 6 (up s1 201 0 0 (s1 0 j (1 : Int32).toNatClampNeg)) = some (fr L 6, _) := v_number (a := 6) b2 hL (by omega)
    rw [n6, bn_s, vl_d]
    generalize hs2 : up (up s1 201 0 0 (s1 0 j (1 : Int32).toNatClampNeg)) 203 0 0 (fr L 6) = s3
    have g3 : FH 0 HS σ s3 := by rw [← hs2]; exact FH.up (by decide) g2
    have b3 : BL s3 j L := by rw [← hs2]; exact b2.mv (by rw [up_fn (by decide)]) (by rw [up_fn (by decide)])
    have n10 : f_X0_number j 10 s3 = some (fr L 10, s3) := v_number (a := 10) b3 hL (by omega)
    rw [n10, bn_s, vl_d]
    have b4' : BL (up s3 204 0 0 (fr L 10)) j L := b3.mv (by rw [up_fn (by decide)]) (by rw [up_fn (by decide)])
    have n14 : f_X0_number j 14 (up s3 204 0 0 (fr L 10)) = some (fr L 14, _) := v_number (a := 14) b4' hL (by omega)
    rw [n14, bn_s, vl_d]
    generalize hs5 : up (up s3 204 0 0 (fr L 10)) 205 0 0 (fr L 14) = s5
    have g5 : FH 0 HS σ s5 := by rw [← hs5]; exact FH.up (by decide) (FH.up (by decide) g3)
    have b5 : BL s5 j L := by rw [← hs5]; exact b4'.mv (by rw [up_fn (by decide)]) (by rw [up_fn (by decide)])
    have r0 : s5 200 0 0 = L.getD 0 0 := by
      rw [← hs5, ← hs2, up_fn (by decide), up_fn (by decide), up_fn (by decide), up_fn (by decide), q0]; exact x0
    have hh7 : hd7 s5 L := by
      refine ⟨r0, ?_, ?_, ?_, ?_, ?_, ?_⟩
      · rw [← hs5, ← hs2, up_fn (by decide), up_fn (by decide), up_fn (by decide), up_at]; exact x1
      · rw [← hs5, ← hs2, up_fn (by decide), up_fn (by decide), up_fn (by decide), up_fn (by decide)]; exact q2
      · rw [← hs5, ← hs2, up_fn (by decide), up_fn (by decide), up_at]
      · rw [← hs5, up_fn (by decide), up_at]
      · rw [← hs5, up_at]
      · rw [← hs5, ← hs2, up_fn (by decide), up_fn (by decide), up_fn (by decide), up_fn (by decide), q6]; exact x18
    have h4 : hs4 s5 0 = (-1, 0, 0, 0) := by
      rw [← q7, ← hs5, ← hs2]
      exact hs4.mv (fun f hf => by rcases hf with rfl | rfl | rfl | rfl <;> simp [up_rd])
    rw [r0]
    have tail : (L.getD 0 0 = 1 ∨ L.getD 0 0 = 2) → ∃ r σ', f_X2_read_89 0 j s5 = some (r, σ') ∧ FH 0 HS σ σ' ∧ ((if L.getD 0 0 = 1 ∨ L.getD 0 0 = 2 then po L 5000 19 (-1, 0, 0, 0) else none) = none → r = 0) ∧ ∀ s, (if L.getD 0 0 = 1 ∨ L.getD 0 0 = 2 then po L 5000 19 (-1, 0, 0, 0) else none) = some s → r = 1 ∧ hd7 σ' L ∧ hs4 σ' 0 = s := by
      intro ho
      rw [if_pos ho]
      unfold f_X2_read_89 f_X2_readOptions
      obtain ⟨r, σ', e, g, p1, p2⟩ := v_readOptions_loop (j0 := 0) hL hB 5000 19 s5 b5 (by omega) (by omega)
      have e : f_X2_readOptions_3 5000 0 j 19 s5 = some (r, σ') := e
      rw [e, bn_s]
      rw [h4] at p1 p2
      have h7 : hd7 σ' L := by
        unfold hd7
        rw [g.1 200 (by decide), g.1 201 (by decide), g.1 202 (by decide), g.1 203 (by decide), g.1 204 (by decide), g.1 205 (by decide), g.1 206 (by decide)]
        exact hh7
      by_cases c : r = 0
      · rw [if_pos c]
        exact ⟨_, _, rfl, g5.tr (g.mono (by decide)), fun _ => rfl, fun s hs => absurd (p2 s hs).1 (by rw [c]; decide)⟩
      · rw [if_neg c]
        exact ⟨_, _, rfl, g5.tr (g.mono (by decide)), fun hs => absurd (p1 hs) c, fun s hs => ⟨rfl, h7, (p2 s hs).2⟩⟩
    by_cases c2 : L.getD 0 0 = 1
    · rw [if_pos c2]
      exact tail (Or.inl c2)
    · rw [if_neg c2]
      by_cases c3 : L.getD 0 0 = 2
      · rw [if_pos c3]; exact tail (Or.inr c3)
      · rw [if_neg c3, if_neg (fun q => q.elim c2 c3)]
        exact ⟨_, _, rfl, g5, fun _ => rfl, fun s hs => by cases hs⟩
