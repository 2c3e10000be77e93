/-! Bytes, messages that are made, and what is under way. -/
def BL (σ : Mem) (j : Nat) (L : List Int32) : Prop := σ 1 j 0 = nI L.length ∧ ∀ i, i < L.length → σ 0 j i = L.getD i 0
def FB (j : Nat) (σ σ' : Mem) : Prop := (∀ f, f ≠ 0 → f ≠ 1 → σ' f = σ f) ∧ ∀ f j', j' ≠ j → σ' f j' = σ f j'
theorem FB.rf {j : Nat} {σ : Mem} : FB j σ σ := ⟨fun _ _ _ => rfl, fun _ _ _ => rfl⟩
theorem FB.tr {j : Nat} {σ σ1 σ2 : Mem} (h : FB j σ σ1) (h2 : FB j σ1 σ2) : FB j σ σ2 := ⟨fun f a b => (h2.1 f a b).trans (h.1 f a b), fun f j' a => (h2.2 f j' a).trans (h.2 f j' a)⟩
theorem FB.u0 {j i : Nat} {x : Int32} {σ : Mem} : FB j σ (up σ 0 j i x) := ⟨fun _ a _ => up_fn a, fun _ _ a => up_fj a⟩
theorem FB.u1 {j i : Nat} {x : Int32} {σ : Mem} : FB j σ (up σ 1 j i x) := ⟨fun _ _ a => up_fn a, fun _ _ a => up_fj a⟩
theorem getD_app_l {L M : List Int32} {i : Nat} (h : i < L.length) : (L ++ M).getD i 0 = L.getD i 0 := by
  rw [List.getD_eq_getElem?_getD, List.getD_eq_getElem?_getD, List.getElem?_append_left h]
theorem getD_app_r {L : List Int32} {x : Int32} : (L ++ [x]).getD L.length 0 = x := by
  rw [List.getD_eq_getElem?_getD, List.getElem?_append_right (Nat.le_refl _), Nat.sub_self]; rfl
theorem nle {a b : Nat} (h : a < b) (hb : b < 2 ^ 31) : ¬ nI b ≤ nI a := nI_ge h hb
theorem v_add {σ : Mem} {j : Nat} {L : List Int32} (x : Int32) (h : BL σ j L) (hn : L.length < 60) : ∃ σ', f_X0_add j x σ = some σ' ∧ BL σ' j (L ++ [x &&& 255]) ∧ FB j σ σ' := by
  obtain ⟨h1, h2⟩ := h
  have c1 : ¬ (60 : Int32) ≤ σ 1 j 0 := by rw [h1]; exact nI_ge (a := L.length) (b := 60) hn (by decide)
  have c2 : vin (σ 1 j 0) 60 = true := by rw [h1]; exact vin_n hn (by decide)
  unfold f_X0_add
  rw [if_neg c1, gd_p c2, vl_d, vl_d]
  refine ⟨_, rfl, ⟨?_, ?_⟩, FB.u0.tr FB.u1⟩
  · rw [up_at, up_rd, if_neg (by omega), h1, List.length_append]
    exact nI_1 _
  · intro i hi
    rw [h1, cln (by omega)]
    rw [up_rd, if_neg (by omega), up_rd]
    rw [List.length_append] at hi
    have hi : i < L.length + 1 := hi
    by_cases e : i = L.length
    · subst e
      rw [if_pos ⟨rfl, rfl, rfl⟩, getD_app_r]
    · rw [if_neg (fun q => e q.2.2), getD_app_l (by omega)]
      exact h2 i (by omega)
theorem v_addNumber {σ : Mem} {j : Nat} {L : List Int32} (v : Int32) (h : BL σ j L) (hn : L.length + 4 ≤ 60) : ∃ σ', f_X0_addNumber j v σ = some σ' ∧ BL σ' j (L ++ b4 v) ∧ FB j σ σ' := by
  unfold f_X0_addNumber
  rw [show (5000 : Nat) = 4995 + 1 + 1 + 1 + 1 + 1 from rfl, f_X0_addNumber_3.eq_2, if_neg (by decide)]
  obtain ⟨σ1, e1, b1, g1⟩ := v_add (ushr v 24) h (by omega)
  rw [e1, bv_s, vl_d, f_X0_addNumber_3.eq_2, if_neg (by decide)]
  obtain ⟨σ2, e2, b2, g2⟩ := v_add (ushr v 16) b1 (by simp; omega)
  rw [show (24 : Int32) + (-8 : Int32) = 16 from rfl, e2, bv_s, vl_d, f_X0_addNumber_3.eq_2, if_neg (by decide)]
  obtain ⟨σ3, e3, b3, g3⟩ := v_add (ushr v 8) b2 (by simp; omega)
  rw [show (16 : Int32) + (-8 : Int32) = 8 from rfl, e3, bv_s, vl_d, f_X0_addNumber_3.eq_2, if_neg (by decide)]
  obtain ⟨σ4, e4, b4', g4⟩ := v_add (ushr v 0) b3 (by simp; omega)
  rw [show (8 : Int32) + (-8 : Int32) = 0 from rfl, e4, bv_s, vl_d, f_X0_addNumber_3.eq_2, if_pos (by decide)]
  refine ⟨σ4, rfl, ?_, g1.tr (g2.tr (g3.tr g4))⟩
  rw [bb24, bb16, bb8, bb0] at b4'
  simpa [b4] using b4'
def o6 (code v : Int32) : List Int32 := if v = 0 then [] else [code, 4] ++ b4 v
theorem o6_len (code v : Int32) : (o6 code v).length ≤ 6 := by unfold o6; split <;> simp [b4]
theorem v_writeOption {σ : Mem} {j0 j : Nat} {L : List Int32} (code v : Int32) (hc : code &&& 255 = code) (h : BL σ j L) (hn : L.length + 6 ≤ 60) : ∃ σ', f_X2_writeOption j0 j code v σ = some σ' ∧ BL σ' j (L ++ o6 code v) ∧ FB j σ σ' := by
  unfold f_X2_writeOption o6
  by_cases c1 : v = 0
  · rw [if_pos c1, if_pos c1]
    exact ⟨σ, rfl, by simpa using h, FB.rf⟩
  · rw [if_neg c1, if_neg c1]
    obtain ⟨σ1, e1, b1, g1⟩ := v_add code h (by omega)
    obtain ⟨σ2, e2, b2, g2⟩ := v_add 4 b1 (by simp; omega)
    obtain ⟨σ3, e3, b3, g3⟩ := v_addNumber v b2 (by simp; omega)
    rw [e1, bv_s, e2, bv_s, e3, bv_s]
    refine ⟨σ3, rfl, ?_, g1.tr (g2.tr g3)⟩
    rw [hc, show (4 : Int32) &&& 255 = 4 from rfl] at b3
    simpa using b3
/-- a message that is made -/
def encO (wa le se : Int32) : List Int32 := o6 50 wa ++ (o6 51 le ++ (o6 54 se ++ [255]))
def encH (op hops xid ci yi gi ch kind : Int32) : List Int32 := [op, hops] ++ (b4 xid ++ (b4 ci ++ (b4 yi ++ (b4 gi ++ [ch, 53, 1, kind]))))
theorem encH_len (op hops xid ci yi gi ch kind : Int32) : (encH op hops xid ci yi gi ch kind).length = 22 := rfl
theorem encO_len (wa le se : Int32) : (encO wa le se).length ≤ 19 := by
  have := o6_len 50 wa; have := o6_len 51 le; have := o6_len 54 se
  simp only [encO, List.length_append, List.length_cons, List.length_nil]; omega
def mEnc (σ : Mem) (j : Nat) : List Int32 := encH (σ 200 j 0 &&& 255) (σ 201 j 0 &&& 255) (σ 202 j 0) (σ 203 j 0) (σ 204 j 0) (σ 205 j 0) (σ 206 j 0 &&& 255) (σ 207 j 0 &&& 255) ++ encO (σ 208 j 0) (σ 209 j 0) (σ 210 j 0)
theorem v_write {σ : Mem} {j0 j : Nat} : ∃ σ', f_X2_write j0 j σ = some σ' ∧ BL σ' j (mEnc σ j0) ∧ FB j σ σ' := by
  unfold f_X2_write
  rw [vl_d]
  have g0 : FB j σ (up σ 1 j 0 0) := FB.u1
  have b0 : BL (up σ 1 j 0 0) j [] := ⟨by rw [up_at]; rfl, fun i hi => absurd hi (Nat.not_lt_zero i)⟩
  have rd : ∀ {τ : Mem}, FB j σ τ → ∀ f, f ≠ 0 → f ≠ 1 → ∀ j' i, τ f j' i = σ f j' i := fun h f a b j' i => by rw [h.1 f a b]
  obtain ⟨s1, e1, b1, g1⟩ := v_add (σ 200 j0 0) b0 (by simp)
  rw [rd g0 200 (by decide) (by decide), e1, bv_s]
  have g1 := g0.tr g1
  obtain ⟨s2, e2, b2, g2⟩ := v_add (σ 201 j0 0) b1 (by simp)
  rw [rd g1 201 (by decide) (by decide), e2, bv_s]
  have g2 := g1.tr g2
  obtain ⟨s3, e3, b3, g3⟩ := v_addNumber (σ 202 j0 0) b2 (by simp)
  rw [rd g2 202 (by decide) (by decide), e3, bv_s]
  have g3 := g2.tr g3
  obtain ⟨s4, e4, b4', g4⟩ := v_addNumber (σ 203 j0 0) b3 (by simp [b4])
  rw [rd g3 203 (by decide) (by decide), e4, bv_s]
  have g4 := g3.tr g4
  obtain ⟨s5, e5, b5, g5⟩ := v_addNumber (σ 204 j0 0) b4' (by simp [b4])
  rw [rd g4 204 (by decide) (by decide), e5, bv_s]
  have g5 := g4.tr g5
  obtain ⟨s6, e6, b6, g6⟩ := v_addNumber (σ 205 j0 0) b5 (by simp [b4])
  rw [rd g5 205 (by decide) (by decide), e6, bv_s]
  have g6 := g5.tr g6
  obtain ⟨s7, e7, b7, g7⟩ := v_add (σ 206 j0 0) b6 (by simp [b4])
  rw [rd g6 206 (by decide) (by decide), e7, bv_s]
  have g7 := g6.tr g7
  obtain ⟨s8, e8, b8, g8⟩ := v_add 53 b7 (by simp [b4])
  rw [e8, bv_s]
  have g8 := g7.tr g8
  obtain ⟨s9, e9, b9, g9⟩ := v_add 1 b8 (by simp [b4])
  rw [e9, bv_s]
  have g9 := g8.tr g9
  obtain ⟨s10, e10, b10, g10⟩ := v_add (σ 207 j0 0) b9 (by simp [b4])
  rw [rd g9 207 (by decide) (by decide), e10, bv_s]
  have g10 := g9.tr g10
  have b10 : BL s10 j (encH (σ 200 j0 0 &&& 255) (σ 201 j0 0 &&& 255) (σ 202 j0 0) (σ 203 j0 0) (σ 204 j0 0) (σ 205 j0 0) (σ 206 j0 0 &&& 255) (σ 207 j0 0 &&& 255)) := b10
  have l10 := encH_len (σ 200 j0 0 &&& 255) (σ 201 j0 0 &&& 255) (σ 202 j0 0) (σ 203 j0 0) (σ 204 j0 0) (σ 205 j0 0) (σ 206 j0 0 &&& 255) (σ 207 j0 0 &&& 255)
  have m1 := o6_len 50 (σ 208 j0 0)
  have m2 := o6_len 51 (σ 209 j0 0)
  have m3 := o6_len 54 (σ 210 j0 0)
  obtain ⟨s11, e11, b11, g11⟩ := v_writeOption (j0 := j0) 50 (σ 208 j0 0) rfl b10 (by omega)
  rw [rd g10 208 (by decide) (by decide), e11, bv_s]
  have g11 := g10.tr g11
  obtain ⟨s12, e12, b12, g12⟩ := v_writeOption (j0 := j0) 51 (σ 209 j0 0) rfl b11 (by rw [List.length_append]; omega)
  rw [rd g11 209 (by decide) (by decide), e12, bv_s]
  have g12 := g11.tr g12
  obtain ⟨s13, e13, b13, g13⟩ := v_writeOption (j0 := j0) 54 (σ 210 j0 0) rfl b12 (by rw [List.length_append, List.length_append]; omega)
  rw [rd g12 210 (by decide) (by decide), e13, bv_s]
  have g13 := g12.tr g13
  obtain ⟨s14, e14, b14, g14⟩ := v_add 255 b13 (by rw [List.length_append, List.length_append, List.length_append]; omega)
  rw [e14, bv_s]
  refine ⟨s14, rfl, ?_, g13.tr g14⟩
  rw [show (255 : Int32) &&& 255 = 255 from rfl] at b14
  simpa [mEnc, encO, List.append_assoc] using b14
