/-! a client's tick, on both sides -/
def x5t (tr : Int32) : Int32 := if tr = 1 then 4 else if tr = 2 then 8 else 16
theorem m_t39 {c : Nat} {τ : Mem} (hc : c < 12) : f_X8_tickOf (nI c) τ = f_X8_tickOf_72 (nI c) (τ 812 0 c) (τ 801 0 0 - τ 819 0 c) (if τ 812 0 c = 4 then τ 817 0 c else τ 815 0 c) (x5t (τ 820 0 c)) τ := by
  unfold f_X8_tickOf f_X8_tickOf_39 x5t
  simp only [gd_p (v12 hc), vl_d, cln (show c < 2 ^ 31 by omega)]
  by_cases h1 : τ 820 0 c = 1
  · rw [if_pos h1, if_pos h1, if_pos h1]
    by_cases h4 : τ 812 0 c = 4
    · rw [if_pos h4, if_pos h4]
    · rw [if_neg h4, if_neg h4]
  · rw [if_neg h1, if_neg h1, if_neg h1]
    by_cases h2 : τ 820 0 c = 2
    · rw [if_pos h2, if_pos h2, if_pos h2]
      by_cases h4 : τ 812 0 c = 4
      · rw [if_pos h4, if_pos h4]
      · rw [if_neg h4, if_neg h4]
    · rw [if_neg h2, if_neg h2, if_neg h2]
      by_cases h4 : τ 812 0 c = 4
      · rw [if_pos h4, if_pos h4]
      · rw [if_neg h4, if_neg h4]
theorem b_try {c : Nat} {t : Int32} {Q : List Pk} {σ τ : Mem} (hc : c < 12) (hid : σ 100 c 0 = nI c) (h : REQ σ τ) (ht : t = τ 801 0 0) (hQ : MU τ Q) (hi : cIV σ c) (hm : σ 101 c 0 = 1 ∨ σ 101 c 0 = 2 ∨ σ 101 c 0 = 6) : ∃ r σ' τ', f_X1_tryNext c t 1 σ = some (r, σ') ∧ (if t - σ 109 c 0 < x5t (σ 108 c 0) then some τ else f_X8_nextTry (nI c) τ) = some τ' ∧ OPR c r Q σ τ σ' τ' := by
  have htr := hi.2.1 hm
  unfold f_X1_tryNext
  rw [vl_d]
  have hv : (2 : Int32) <<< (σ 108 c 0 &&& 31) = x5t (σ 108 c 0) := by
    rcases htr with e | e | e <;> rw [e] <;> rfl
  rw [hv]
  by_cases c0 : t - σ 109 c 0 < x5t (σ 108 c 0)
  · rw [if_pos c0, if_neg (Int32.not_le.mpr c0)]
    exact ⟨_, _, _, rfl, rfl, opr_id FC.rf Sm.rf h hi hQ⟩
  · rw [if_neg c0, if_pos (Int32.not_lt.mp c0)]
    unfold f_X1_tryNext_42 f_X1_tryNext_66 f_X8_nextTry
    simp only [gd_p (v12 hc), vl_d, bv_id, bn_id, cln (show c < 2 ^ 31 by omega)]
    have e820 := RQ_at h (f := 108) (g := 820) (by decide) hc
    have e812 := RQ_at h (f := 101) (g := 812) (by decide) hc
    rw [e820, e812]
    have grow : ∀ a b : Int32, σ 108 c 0 = a → a < 3 → ¬ 3 ≤ a → a + 1 = b → (b = 2 ∨ b = 3) → ∃ r σ' τ', f_X1_say c t 1 (up σ 108 c 0 (if 3 < σ 108 c 0 + 1 then 3 else σ 108 c 0 + 1)) = some (r, σ') ∧ (if up τ 820 0 c (σ 108 c 0 + 1) 812 0 c = 1 then f_X8_sayDiscover (nI c) (up τ 820 0 c (σ 108 c 0 + 1)) else if up τ 820 0 c (σ 108 c 0 + 1) 812 0 c = 2 then f_X8_sayRequest (nI c) (up τ 820 0 c (σ 108 c 0 + 1)) else f_X8_sayReboot (nI c) (up τ 820 0 c (σ 108 c 0 + 1))) = some τ' ∧ OPR c r Q σ τ σ' τ' := by
      intro a b ha h3 h3' hb hb2
      rw [ha, hb, if_neg (show ¬ 3 < b by rcases hb2 with rfl | rfl <;> decide), up_fn (f := 820) (f' := 812) (by decide), e812]
      have F0 : FC c σ (up σ 108 c 0 b) := FC.uc (by decide) (by decide) FC.rf
      have S0 : Sm MC12 τ (up τ 820 0 c b) := Sm.up (by decide) Sm.rf
      have R0 : REQ (up σ 108 c 0 b) (up τ 820 0 c b) := REQ.up (by decide) h
      have x1 : up σ 108 c 0 b 101 c 0 = σ 101 c 0 := by rw [up_fn (by decide)]
      have I0 : cIV (up σ 108 c 0 b) c := cIV_of (m := σ 101 c 0) (s := σ 102 c 0) (a := σ 103 c 0) (tr := b) (o := σ 110 c 0) (r := σ 111 c 0) ⟨hi.1, fun _ => Or.inr hb2, hi.2.2.1, hi.2.2.2⟩ x1 (by rw [up_fn (by decide)]) (by rw [up_fn (by decide)]) (by rw [up_at]) (by rw [up_fn (by decide)]) (by rw [up_fn (by decide)])
      have hid0 : up σ 108 c 0 b 100 c 0 = nI c := by rw [up_fn (by decide)]; exact hid
      have ht0 : t = up τ 820 0 c b 801 0 0 := by rw [up_fn (by decide)]; exact ht
      rcases hm with m1 | m1 | m1
      · rw [if_pos m1]
        obtain ⟨pl, σ', τ', a1, a2, a3⟩ := b_say_1 hc hid0 R0 ht0 (hQ.m12 S0) I0 (x1.trans m1)
        exact ⟨pl, σ', τ', a1, a2, opr_say F0 S0 I0 a3⟩
      · rw [if_neg (by rw [m1]; decide), if_pos m1]
        obtain ⟨pl, σ', τ', a1, a2, a3⟩ := b_say_2 hc hid0 R0 ht0 (hQ.m12 S0) I0 (x1.trans m1)
        exact ⟨pl, σ', τ', a1, a2, opr_say F0 S0 I0 a3⟩
      · rw [if_neg (by rw [m1]; decide), if_neg (by rw [m1]; decide)]
        obtain ⟨pl, σ', τ', a1, a2, a3⟩ := b_say_6 hc hid0 R0 ht0 (hQ.m12 S0) I0 (x1.trans m1)
        exact ⟨pl, σ', τ', a1, a2, opr_say F0 S0 I0 a3⟩
    rcases htr with e | e | e
    · rw [if_pos (show σ 108 c 0 < 3 by rw [e]; decide), if_pos (show σ 108 c 0 < 3 by rw [e]; decide), if_neg (show ¬ 3 ≤ σ 108 c 0 by rw [e]; decide)]
      exact grow 1 2 e (by decide) (by decide) rfl (Or.inl rfl)
    · rw [if_pos (show σ 108 c 0 < 3 by rw [e]; decide), if_pos (show σ 108 c 0 < 3 by rw [e]; decide), if_neg (show ¬ 3 ≤ σ 108 c 0 by rw [e]; decide)]
      exact grow 2 3 e (by decide) (by decide) rfl (Or.inr rfl)
    · rw [if_neg (show ¬ σ 108 c 0 < 3 by rw [e]; decide), if_neg (show ¬ σ 108 c 0 < 3 by rw [e]; decide), if_pos (show (3 : Int32) ≤ σ 108 c 0 by rw [e]; decide)]
      rcases hm with m1 | m1 | m1
      · rw [if_neg (show ¬ σ 101 c 0 = 2 by rw [m1]; decide), if_neg (show ¬ σ 101 c 0 = 6 by rw [m1]; decide), if_pos m1, e, if_pos (by decide), up_same e]
        obtain ⟨pl, σ', τ', a1, a2, a3⟩ := b_say_1 hc hid h ht hQ hi m1
        exact ⟨pl, σ', τ', a1, a2, opr_say FC.rf Sm.rf hi a3⟩
      · rw [if_pos m1, if_neg (show ¬ σ 101 c 0 = 1 by rw [m1]; decide), if_pos m1]
        exact b_begin hc hid h ht hQ hi.1
      · rw [if_neg (show ¬ σ 101 c 0 = 2 by rw [m1]; decide), if_pos m1, if_neg (show ¬ σ 101 c 0 = 1 by rw [m1]; decide), if_neg (show ¬ σ 101 c 0 = 2 by rw [m1]; decide)]
        refine ⟨_, _, _, rfl, rfl, opr_id (FC.uc (by decide) (by decide) FC.rf) (Sm.up (by decide) Sm.rf) (REQ.up (by decide) h) ?_ hQ⟩
        exact cIV_of (m := 3) (s := σ 102 c 0) (a := σ 103 c 0) (tr := σ 108 c 0) (o := σ 110 c 0) (r := σ 111 c 0) ⟨hi.1, fun e => by rcases e with e | e | e <;> exact absurd e (by decide), fun e => absurd e (by decide), fun e => absurd e (by decide)⟩ (by rw [up_at]) (by rw [up_fn (by decide)]) (by rw [up_fn (by decide)]) (by rw [up_fn (by decide)]) (by rw [up_fn (by decide)]) (by rw [up_fn (by decide)])
theorem b_half {c : Nat} {t lim : Int32} {Q : List Pk} {σ τ : Mem} (hc : c < 12) (hid : σ 100 c 0 = nI c) (h : REQ σ τ) (ht : t = τ 801 0 0) (hQ : MU τ Q) (hi : cIV σ c) (hm : σ 101 c 0 = 4 ∨ σ 101 c 0 = 5) (x5 : Int32) : ∃ r σ' τ', f_X1_sayHalfway c lim t 1 σ = some (r, σ') ∧ f_X8_tickOf_182 (nI c) (σ 101 c 0) (t - σ 109 c 0) lim x5 τ = some τ' ∧ OPR c r Q σ τ σ' τ' := by
  unfold f_X1_sayHalfway f_X8_tickOf_182 f_X8_half f_X8_tickOf_206 f_X8_tickOf_236
  simp only [gd_p (v12 hc), vl_d, bv_id, bn_id, cln (show c < 2 ^ 31 by omega)]
  rw [RQ_at h (f := 109) (g := 819) (by decide) hc]
  have hh : ∀ v : Int32, (if 2 ≤ v then some (v, τ) else some ((2 : Int32), τ)) = some ((if v < 2 then 2 else v), τ) := by
    intro v
    by_cases q : v < 2
    · rw [if_pos q, if_neg (Int32.not_le.mpr q)]
    · rw [if_neg q, if_pos (Int32.not_lt.mp q)]
  rw [hh, bn_s]
  by_cases c1 : t - σ 109 c 0 < (if (lim - σ 109 c 0 + 1) / 2 < 2 then 2 else (lim - σ 109 c 0 + 1) / 2)
  · rw [if_pos c1, if_pos c1, if_neg (by rcases hm with e | e <;> rw [e] <;> decide), if_neg (by rcases hm with e | e <;> rw [e] <;> decide), if_neg (by rcases hm with e | e <;> rw [e] <;> decide), if_neg (by rcases hm with e | e <;> rw [e] <;> decide)]
    exact ⟨_, _, _, rfl, rfl, opr_id FC.rf Sm.rf h hi hQ⟩
  · rw [if_neg c1, if_neg c1]
    obtain ⟨pl, σ', τ', a1, a2, a3⟩ := b_say_45 (t := t) hc hid h ht hQ hi hm
    exact ⟨pl, σ', τ', a1, a2, opr_say FC.rf Sm.rf hi a3⟩
/-- the turn from using to renewing, and from renewing to rebinding -/
theorem b_turn {c : Nat} {t m : Int32} {Q : List Pk} {σ τ : Mem} (hc : c < 12) (hid : σ 100 c 0 = nI c) (h : REQ σ τ) (ht : t = τ 801 0 0) (hQ : MU τ Q) (hi : cIV σ c) (hm : m = 4 ∨ m = 5) : ∃ r σ' τ', f_X1_turn c m t 1 σ = some (r, σ') ∧ f_X8_sayRenew (nI c) (up τ 812 0 c m) = some τ' ∧ OPR c r Q σ τ σ' τ' := by
  unfold f_X1_turn
  rw [vl_d, bn_id]
  have F0 : FC c σ (up σ 101 c 0 m) := FC.uc (by decide) (by decide) FC.rf
  have S0 : Sm MC12 τ (up τ 812 0 c m) := Sm.up (by decide) Sm.rf
  have R0 : REQ (up σ 101 c 0 m) (up τ 812 0 c m) := REQ.up (by decide) h
  have I0 : cIV (up σ 101 c 0 m) c := cIV_of (m := m) (s := σ 102 c 0) (a := σ 103 c 0) (tr := σ 108 c 0) (o := σ 110 c 0) (r := σ 111 c 0) ⟨hi.1, fun e => by rcases hm with rfl | rfl <;> rcases e with e | e | e <;> exact absurd e (by decide), fun e => by rcases hm with rfl | rfl <;> exact absurd e (by decide), fun e => by rcases hm with rfl | rfl <;> exact absurd e (by decide)⟩ (by rw [up_at]) (by rw [up_fn (by decide)]) (by rw [up_fn (by decide)]) (by rw [up_fn (by decide)]) (by rw [up_fn (by decide)]) (by rw [up_fn (by decide)])
  obtain ⟨pl, σ', τ', a1, a2, a3⟩ := b_say_45 (t := t) hc (by rw [up_fn (by decide)]; exact hid) R0 (by rw [up_fn (by decide)]; exact ht) (hQ.m12 S0) I0 (by rw [up_at]; exact hm)
  exact ⟨pl, σ', τ', a1, a2, opr_say F0 S0 I0 a3⟩
theorem i36 {m : Int32} (h1 : ¬ m < 3) (h2 : ¬ 6 < m) : m = 3 ∨ m = 4 ∨ m = 5 ∨ m = 6 := by
  have a1 : ¬ m.toInt < (3 : Int32).toInt := fun q => h1 (Int32.lt_iff_toInt_lt.mpr q)
  have a2 : ¬ (6 : Int32).toInt < m.toInt := fun q => h2 (Int32.lt_iff_toInt_lt.mpr q)
  rw [show (3 : Int32).toInt = 3 from rfl] at a1
  rw [show (6 : Int32).toInt = 6 from rfl] at a2
  have : m.toInt = 3 ∨ m.toInt = 4 ∨ m.toInt = 5 ∨ m.toInt = 6 := by omega
  rcases this with q | q | q | q
  · exact Or.inl (Int32.toInt_inj.mp q)
  · exact Or.inr (Or.inl (Int32.toInt_inj.mp q))
  · exact Or.inr (Or.inr (Or.inl (Int32.toInt_inj.mp q)))
  · exact Or.inr (Or.inr (Or.inr (Int32.toInt_inj.mp q)))
theorem b_tick {c : Nat} {t : Int32} {Q : List Pk} {σ τ : Mem} (hc : c < 12) (hid : σ 100 c 0 = nI c) (h : REQ σ τ) (ht : t = τ 801 0 0) (hQ : MU τ Q) (hi : cIV σ c) : ∃ r σ' τ', f_X1_passTime c t 1 σ = some (r, σ') ∧ f_X8_tickOf (nI c) τ = some τ' ∧ OPR c r Q σ τ σ' τ' := by
  rw [m_t39 hc]
  unfold f_X1_passTime f_X1_passTime_16 f_X1_passTime_31
  rw [k_uses, bn_s, RQ_at h (f := 101) (g := 812) (by decide) hc, RQ_at h (f := 109) (g := 819) (by decide) hc, RQ_at h (f := 106) (g := 817) (by decide) hc, RQ_at h (f := 104) (g := 815) (by decide) hc, RQ_at h (f := 108) (g := 820) (by decide) hc, ← ht]
  simp only [bn_id]
  unfold f_X8_tickOf_72 f_X8_tickOf_106 f_X8_tickOf_139
  simp only [gd_p (v12 hc), vl_d, bv_id, cln (show c < 2 ^ 31 by omega)]
  rw [RQ_at h (f := 106) (g := 817) (by decide) hc, RQ_at h (f := 104) (g := 815) (by decide) hc, RQ_at h (f := 105) (g := 816) (by decide) hc, ← ht]
  have B := b_begin hc hid h ht hQ hi.1
  have T := fun hm => b_try hc hid h ht hQ hi hm
  have N : ∃ r σ' τ', some ((-1 : Int32), σ) = some (r, σ') ∧ some τ = some τ' ∧ OPR c r Q σ τ σ' τ' := ⟨_, _, _, rfl, rfl, opr_id FC.rf Sm.rf h hi hQ⟩
  have T4 := b_turn (m := 4) hc hid h ht hQ hi (Or.inl rfl)
  have T5 := b_turn (m := 5) hc hid h ht hQ hi (Or.inr rfl)
  have H4 := fun hm lim x5 => b_half (lim := lim) hc hid h ht hQ hi hm x5
  generalize hσm : σ 101 c 0 = m at *
  by_cases h1 : m = 1
  · subst h1
    have T := T (Or.inl rfl)
    rw [show usx 1 = 0 from rfl, if_pos rfl, if_neg (by decide), if_pos rfl, if_pos (by decide), if_neg (by decide), if_neg (by decide)]
    unfold f_X8_tickOf_172 f_X8_tickOf_206 f_X8_tickOf_222 f_X8_tickOf_236
    rw [if_neg (by decide), if_neg (by decide), if_pos rfl, if_neg (show ¬ (1 : Int32) = 7 by decide), bv_id]
    exact T
  by_cases h2 : m = 2
  · subst h2
    have T := T (Or.inr (Or.inl rfl))
    rw [show usx 2 = 0 from rfl, if_pos rfl, if_neg (by decide), if_neg (by decide), if_pos rfl, if_pos (by decide), if_neg (by decide), if_neg (by decide)]
    unfold f_X8_tickOf_172 f_X8_tickOf_206 f_X8_tickOf_222 f_X8_tickOf_236
    rw [if_neg (by decide), if_neg (by decide), if_neg (by decide), if_pos rfl, if_neg (show ¬ (2 : Int32) = 7 by decide), bv_id]
    exact T
  by_cases h3 : m = 3
  · subst h3
    rw [show usx 3 = 1 from rfl, if_neg (by decide)]
    rw [if_neg (show ¬ (3 : Int32) < 3 by decide), if_neg (show ¬ (6 : Int32) < 3 by decide)]
    by_cases c1 : t < σ 104 c 0
    · rw [if_pos c1, if_pos c1]
      rw [if_neg (show ¬ (3 : Int32) = 1 by decide), if_neg (show ¬ (3 : Int32) = 2 by decide), if_pos rfl, if_pos rfl]
      by_cases c2 : t < σ 105 c 0
      · rw [if_pos c2, if_pos c2, if_neg (by decide)]
        unfold f_X8_tickOf_172 f_X8_tickOf_206 f_X8_tickOf_236
        rw [if_neg (by decide), if_neg (by decide), if_neg (by decide), if_neg (by decide), if_neg (by decide), if_neg (by decide)]
        exact N
      · rw [if_neg c2, if_neg c2]
        exact T4
    · rw [if_neg c1, if_neg c1]
      exact B
  by_cases h4 : m = 4
  · subst h4
    rw [show usx 4 = 1 from rfl, if_neg (by decide)]
    rw [if_neg (show ¬ (4 : Int32) < 3 by decide), if_neg (show ¬ (6 : Int32) < 4 by decide)]
    by_cases c1 : t < σ 104 c 0
    · rw [if_pos c1, if_pos c1]
      rw [if_neg (show ¬ (4 : Int32) = 1 by decide), if_neg (show ¬ (4 : Int32) = 2 by decide), if_neg (show ¬ (4 : Int32) = 3 by decide), if_pos rfl, if_neg (show ¬ (4 : Int32) = 3 by decide), if_pos rfl, if_pos rfl]
      by_cases c2 : t < σ 106 c 0
      · rw [if_pos c2, if_pos c2]
        unfold f_X8_tickOf_172
        rw [if_pos rfl]
        exact H4 (Or.inl rfl) _ _
      · rw [if_neg c2, if_neg c2]
        exact T5
    · rw [if_neg c1, if_neg c1]
      exact B
  by_cases h5 : m = 5
  · subst h5
    rw [show usx 5 = 1 from rfl, if_neg (by decide)]
    rw [if_neg (show ¬ (5 : Int32) < 3 by decide), if_neg (show ¬ (6 : Int32) < 5 by decide)]
    by_cases c1 : t < σ 104 c 0
    · rw [if_pos c1, if_pos c1]
      rw [if_neg (show ¬ (5 : Int32) = 1 by decide), if_neg (show ¬ (5 : Int32) = 2 by decide), if_neg (show ¬ (5 : Int32) = 3 by decide), if_neg (show ¬ (5 : Int32) = 4 by decide), if_pos rfl, if_neg (show ¬ (5 : Int32) = 3 by decide), if_neg (show ¬ (5 : Int32) = 4 by decide), if_neg (show ¬ (5 : Int32) = 4 by decide)]
      unfold f_X8_tickOf_172
      rw [if_neg (by decide), if_pos rfl]
      exact H4 (Or.inr rfl) _ _
    · rw [if_neg c1, if_neg c1]
      exact B
  by_cases h6 : m = 6
  · subst h6
    have T := T (Or.inr (Or.inr rfl))
    rw [show usx 6 = 0 from rfl, if_pos rfl, if_pos rfl]
    rw [if_neg (show ¬ (6 : Int32) < 3 by decide), if_neg (show ¬ (6 : Int32) < 6 by decide)]
    by_cases c1 : t < σ 104 c 0
    · rw [if_pos c1, if_pos c1]
      rw [if_neg (show ¬ (6 : Int32) = 1 by decide), if_neg (show ¬ (6 : Int32) = 2 by decide), if_neg (show ¬ (6 : Int32) = 3 by decide), if_neg (show ¬ (6 : Int32) = 4 by decide), if_neg (show ¬ (6 : Int32) = 5 by decide), if_pos rfl, if_neg (show ¬ (6 : Int32) = 3 by decide), if_neg (show ¬ (6 : Int32) = 4 by decide)]
      unfold f_X8_tickOf_172 f_X8_tickOf_206 f_X8_tickOf_222 f_X8_tickOf_236
      rw [if_neg (by decide), if_neg (by decide), if_neg (by decide), if_neg (by decide), if_pos rfl, if_neg (show ¬ (6 : Int32) = 7 by decide), bv_id]
      exact T
    · rw [if_neg c1, if_neg c1]
      exact B
  have hu : usx m = 0 := by unfold usx; rw [if_neg (fun q => q.elim h3 (fun q => q.elim h4 h5))]
  have hlo : m < 3 ∨ 6 < m := by
    by_cases a : m < 3
    · exact Or.inl a
    · by_cases b : 6 < m
      · exact Or.inr b
      · rcases i36 a b with q | q | q | q
        · exact absurd q h3
        · exact absurd q h4
        · exact absurd q h5
        · exact absurd q h6
  rw [hu, if_pos rfl, if_neg h6, if_neg h1, if_neg h2, if_neg h3, if_neg h4, if_neg h5, if_neg h6, if_neg h3, if_neg h4]
  have e72 : ∀ (X Y : Option Mem), (if m < 3 then X else if 6 < m then X else Y) = X := by
    intro X Y
    rcases hlo with q | q
    · rw [if_pos q]
    · by_cases a : m < 3
      · rw [if_pos a]
      · rw [if_neg a, if_pos q]
  rw [e72]
  unfold f_X8_tickOf_172 f_X8_tickOf_206 f_X8_tickOf_236
  rw [if_neg h4, if_neg h5, if_neg h1, if_neg h2, if_neg h6, bv_id]
  by_cases h7 : m = 7
  · rw [if_pos h7, if_pos h7]
    by_cases c1 : t - σ 109 c 0 < 10
    · rw [if_pos c1, if_pos c1]
      exact N
    · rw [if_neg c1, if_neg c1]
      exact B
  · rw [if_neg h7, if_neg h7]
    exact N
