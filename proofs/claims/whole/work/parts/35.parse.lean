/-! reading a message -/
def BY (L : List Int32) : Prop := ∀ i, ∃ n, n < 256 ∧ L.getD i 0 = nI n
def fr (L : List Int32) (i : Nat) : Int32 := (((L.getD i 0 <<< ((24 : Int32) &&& 31)) ||| (L.getD (i + 1) 0 <<< ((16 : Int32) &&& 31))) ||| (L.getD (i + 2) 0 <<< ((8 : Int32) &&& 31))) ||| L.getD (i + 3) 0
abbrev St4 : Type := Int32 × Int32 × Int32 × Int32
def po (L : List Int32) : Nat → Nat → St4 → Option St4
  | 0, _, _ => none
  | t + 1, i, s => if L.length ≤ i then none else if L.getD i 0 = 255 then some s else if L.getD i 0 = 0 then po L t (i + 1) s else if L.length ≤ i + 1 then none else if L.length < i + 2 + (L.getD (i + 1) 0).toNatClampNeg then none
    else if L.getD i 0 = 53 then (if L.getD (i + 1) 0 = 1 then po L t (i + 2 + (L.getD (i + 1) 0).toNatClampNeg) (L.getD (i + 2) 0, s.2) else none)
    else if L.getD i 0 = 50 then (if L.getD (i + 1) 0 = 4 then po L t (i + 2 + (L.getD (i + 1) 0).toNatClampNeg) (s.1, fr L (i + 2), s.2.2) else none)
    else if L.getD i 0 = 51 then (if L.getD (i + 1) 0 = 4 then po L t (i + 2 + (L.getD (i + 1) 0).toNatClampNeg) (s.1, s.2.1, fr L (i + 2), s.2.2.2) else none)
    else if L.getD i 0 = 54 then (if L.getD (i + 1) 0 = 4 then po L t (i + 2 + (L.getD (i + 1) 0).toNatClampNeg) (s.1, s.2.1, s.2.2.1, fr L (i + 2)) else none)
    else po L t (i + 2 + (L.getD (i + 1) 0).toNatClampNeg) s
def PM (L : List Int32) : Option St4 := if L.length < 19 then none else if L.getD 0 0 = 1 ∨ L.getD 0 0 = 2 then po L 5000 19 (-1, 0, 0, 0) else none
theorem v_number_any {σ : Mem} {j a : Nat} (ha : a ≤ 60) : ∀ (t v : Nat) (x : Int32), a + 4 - v < t → a ≤ v → v ≤ a + 4 → ∃ r, f_X0_number_4 t j (nI a) x (nI v) σ = some (r, σ) := by
  intro t
  induction t with
  | zero => intro v x h; omega
  | succ t ih =>
    intro v x h1 h2 h3
    rw [f_X0_number_4.eq_2, show nI a + (4 : Int32) = nI (a + 4) from nI_add a 4]
    by_cases c1 : a + 4 ≤ v
    · rw [if_pos (nI_le c1 (by omega))]; exact ⟨_, rfl⟩
    · rw [if_neg (nI_ge (by omega) (by omega))]
      by_cases c2 : 60 ≤ v
      · rw [if_pos (show (60 : Int32) ≤ nI v from nI_le (a := 60) c2 (by omega))]; exact ⟨_, rfl⟩
      · rw [if_neg (show ¬ (60 : Int32) ≤ nI v from nI_ge (a := v) (b := 60) (by omega) (by decide)), gd_p (vin_n (by omega) (by decide)), vl_d, vl_d, nI_1]
        exact ih (v + 1) _ (by omega) (by omega) (by omega)
theorem v_number {σ : Mem} {j a : Nat} {L : List Int32} (h : BL σ j L) (hL : L.length ≤ 60) (ha : a + 4 ≤ L.length) : f_X0_number j (nI a) σ = some (fr L a, σ) := by
  have st : ∀ (t v : Nat) (x : Int32), v < a + 4 → f_X0_number_4 (t + 1) j (nI a) x (nI v) σ = f_X0_number_4 t j (nI a) ((x <<< ((8 : Int32) &&& 31)) ||| L.getD v 0) (nI (v + 1)) σ := by
    intro t v x hv
    rw [f_X0_number_4.eq_2, show nI a + (4 : Int32) = nI (a + 4) from nI_add a 4, if_neg (nI_ge (by omega) (by omega)), if_neg (show ¬ (60 : Int32) ≤ nI v from nI_ge (a := v) (b := 60) (by omega) (by decide)), gd_p (vin_n (by omega) (by decide)), vl_d, vl_d, nI_1, cln (by omega), h.2 v (by omega)]
  unfold f_X0_number
  rw [show (5000 : Nat) = 4995 + 1 + 1 + 1 + 1 + 1 from rfl, st _ a _ (by omega), st _ (a + 1) _ (by omega), st _ (a + 1 + 1) _ (by omega), st _ (a + 1 + 1 + 1) _ (by omega)]
  rw [f_X0_number_4.eq_2, show nI a + (4 : Int32) = nI (a + 4) from nI_add a 4, if_pos (nI_le (by omega) (by omega))]
  rw [or_four]
  rfl
/-- what a reading leaves as it was -/
def FH (j : Nat) (S : List Nat) (σ σ' : Mem) : Prop := Sm S σ σ' ∧ ∀ f j', j' ≠ j → σ' f j' = σ f j'
theorem FH.rf {j : Nat} {S : List Nat} {σ : Mem} : FH j S σ σ := ⟨Sm.rf, fun _ _ _ => rfl⟩
theorem FH.tr {j : Nat} {S : List Nat} {σ σ1 σ2 : Mem} (h : FH j S σ σ1) (h2 : FH j S σ1 σ2) : FH j S σ σ2 := ⟨h.1.tr h2.1, fun f j' a => (h2.2 f j' a).trans (h.2 f j' a)⟩
theorem FH.up {j : Nat} {S : List Nat} {σ σ1 : Mem} {f i : Nat} {x : Int32} (hf : f ∈ S) (h : FH j S σ σ1) : FH j S σ (up σ1 f j i x) := ⟨h.1.up hf, fun f' j' a => (up_fj a).trans (h.2 f' j' a)⟩
theorem FH.mono {j : Nat} {S S2 : List Nat} {σ σ1 : Mem} (h : FH j S σ σ1) (hs : ∀ f ∈ S, f ∈ S2) : FH j S2 σ σ1 := ⟨h.1.mono hs, h.2⟩
def hs4 (σ : Mem) (j : Nat) : St4 := (σ 207 j 0, σ 208 j 0, σ 209 j 0, σ 210 j 0)
theorem ifo (c : Prop) [Decidable c] (s : Mem) : (if c then some ((1 : Int32), s) else some ((0 : Int32), s)) = some ((if c then 1 else 0 : Int32), s) := by split <;> rfl
theorem v_readOption {σ : Mem} {j0 j a : Nat} {L : List Int32} (code sz : Int32) (h : BL σ j L) (hL : L.length ≤ 60) (hsz : a + sz.toNatClampNeg ≤ L.length) : ∃ r σ', f_X2_readOption j0 j (nI a) code sz σ = some (r, σ') ∧ FH j0 [207, 208, 209, 210] σ σ' ∧
    (r = 0 ∨ r = 1) ∧ (r = 1 → hs4 σ' j0 = if code = 53 then (L.getD a 0, (hs4 σ j0).2) else if code = 50 then ((hs4 σ j0).1, fr L a, (hs4 σ j0).2.2) else if code = 51 then ((hs4 σ j0).1, (hs4 σ j0).2.1, fr L a, (hs4 σ j0).2.2.2) else if code = 54 then ((hs4 σ j0).1, (hs4 σ j0).2.1, (hs4 σ j0).2.2.1, fr L a) else hs4 σ j0) ∧
    (r = 1 ↔ ((code = 53 → sz = 1) ∧ (code = 50 → sz = 4) ∧ (code = 51 → sz = 4) ∧ (code = 54 → sz = 4))) := by
  have four : ∃ q, f_X0_number j (nI a) σ = some (q, σ) ∧ (sz = 4 → q = fr L a) := by
    by_cases c : sz = 4
    · subst c
      exact ⟨_, v_number h hL (by have : (4 : Int32).toNatClampNeg = 4 := rfl; omega), fun _ => rfl⟩
    · obtain ⟨q, hq⟩ := v_number_any (σ := σ) (j := j) (a := a) (by omega) 5000 a 0 (by omega) (Nat.le_refl _) (by omega)
      exact ⟨q, hq, fun e => absurd e c⟩
  obtain ⟨q, e1, e2⟩ := four
  unfold f_X2_readOption
  by_cases c50 : code = 50
  · subst c50
    rw [if_pos rfl, e1, bn_s, vl_d, ifo]
    refine ⟨_, _, rfl, FH.up (by decide) FH.rf, by split <;> simp, fun hr => ?_, ?_⟩
    · have h4 : sz = 4 := by by_cases c : sz = 4; { exact c }; { rw [if_neg c] at hr; exact absurd hr (by decide) }
      rw [e2 h4]
      simp [hs4, up_rd]
    · by_cases c : sz = 4 <;> simp [c]
  · rw [if_neg c50]
    by_cases c51 : code = 51
    · subst c51
      rw [if_pos rfl, e1, bn_s, vl_d, ifo]
      refine ⟨_, _, rfl, FH.up (by decide) FH.rf, by split <;> simp, fun hr => ?_, ?_⟩
      · have h4 : sz = 4 := by by_cases c : sz = 4; { exact c }; { rw [if_neg c] at hr; exact absurd hr (by decide) }
        rw [e2 h4]
        simp [hs4, up_rd]
      · by_cases c : sz = 4 <;> simp [c]
    · rw [if_neg c51]
      by_cases c52 : code = 52
      · subst c52
        rw [if_pos rfl]
        exact ⟨_, _, rfl, FH.rf, Or.inr rfl, fun _ => by simp, by simp⟩
      · rw [if_neg c52]
        by_cases c53 : code = 53
        · subst c53
          rw [if_pos rfl]
          by_cases c : sz = 1
          · subst c
            have hsz : a + 1 ≤ L.length := hsz
            rw [if_pos rfl, gd_p (vin_n (by omega) (by decide)), cln (by omega), h.2 a (by omega)]
            unfold f_X2_readOption_53
            rw [vl_d, if_pos rfl]
            refine ⟨_, _, rfl, FH.up (by decide) FH.rf, Or.inr rfl, fun hr => ?_, by simp⟩
            simp [hs4, up_rd]
          · rw [if_neg c]
            unfold f_X2_readOption_53
            rw [vl_d, if_neg c]
            exact ⟨_, _, rfl, FH.up (by decide) FH.rf, Or.inl rfl, fun hr => absurd hr (by decide), by simp [c]⟩
        · rw [if_neg c53]
          by_cases c54 : code = 54
          · subst c54
            rw [if_pos rfl, e1, bn_s, vl_d, ifo]
            refine ⟨_, _, rfl, FH.up (by decide) FH.rf, by split <;> simp, fun hr => ?_, ?_⟩
            · have h4 : sz = 4 := by by_cases c : sz = 4; { exact c }; { rw [if_neg c] at hr; exact absurd hr (by decide) }
              rw [e2 h4]
              simp [hs4, up_rd]
            · by_cases c : sz = 4 <;> simp [c]
          · rw [if_neg c54]
            exact ⟨_, _, rfl, FH.rf, Or.inr rfl, fun _ => by simp [c50, c51, c53, c54], by simp [c50, c51, c53, c54]⟩
