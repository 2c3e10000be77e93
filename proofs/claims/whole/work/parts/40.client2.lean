/-! what a client does, on both sides -/
abbrev MC19 : List Nat := [812, 813, 814, 815, 816, 817, 818, 819, 820, 821, 822, 823, 824, 825, 826, 827, 828, 829]
abbrev MC12 : List Nat := [812, 813, 814, 815, 816, 817, 818, 819, 820, 821, 822]
def OPR (c : Nat) (r : Int32) (Q : List Pk) (σ τ σ' τ' : Mem) : Prop := FC c σ σ' ∧ Sm MC19 τ τ' ∧ REQ σ' τ' ∧ cIV σ' c ∧ ((r = -1 ∧ MU τ' Q ∧ τ' 824 0 0 = τ 824 0 0) ∨ (PLC r ∧ MU τ' (qp Q (r, mEnc σ' 1)) ∧ τ' 824 0 0 = lqx Q (τ 824 0 0)))
theorem MU.m12 {τ τ0 : Mem} {Q : List Pk} (h : MU τ Q) (S : Sm MC12 τ τ0) : MU τ0 Q := h.mv (S _ (by decide)) (S _ (by decide)) (S _ (by decide)) (S _ (by decide))
theorem opr_id {c : Nat} {Q : List Pk} {σ τ σ' τ' : Mem} (a : FC c σ σ') (b : Sm MC12 τ τ') (h : REQ σ' τ') (hi : cIV σ' c) (hQ : MU τ Q) : OPR c (-1) Q σ τ σ' τ' :=
  ⟨a, b.mono (by decide), h, hi, Or.inl ⟨rfl, hQ.m12 b, by rw [b 824 (by decide)]⟩⟩
theorem cIV_of {σ : Mem} {c : Nat} {m s a tr o r : Int32} (h : CIV m s a tr o r) (e1 : σ 101 c 0 = m) (e2 : σ 102 c 0 = s) (e3 : σ 103 c 0 = a) (e4 : σ 108 c 0 = tr) (e5 : σ 110 c 0 = o) (e6 : σ 111 c 0 = r) : cIV σ c := by
  unfold cIV; rw [e1, e2, e3, e4, e5, e6]; exact h
theorem cIV.mv {σ σ' : Mem} {c : Nat} (h : cIV σ c) (a : ∀ f, f < 200 → f ≠ 107 → f ≠ 109 → σ' f = σ f) : cIV σ' c := by
  unfold cIV
  rw [a 101 (by decide) (by decide) (by decide), a 102 (by decide) (by decide) (by decide), a 103 (by decide) (by decide) (by decide), a 108 (by decide) (by decide) (by decide), a 110 (by decide) (by decide) (by decide), a 111 (by decide) (by decide) (by decide)]
  exact h
theorem opr_say {c : Nat} {pl : Int32} {Q : List Pk} {σ τ σ0 τ0 σ' τ' : Mem} (a : FC c σ σ0) (b : Sm MC12 τ τ0) (hi : cIV σ0 c) (h : SBT c pl Q σ0 τ0 σ' τ') : OPR c pl Q σ τ σ' τ' := by
  obtain ⟨h1, h2, h3, h4, h5, h6, h7⟩ := h
  refine ⟨a.tr h1, (b.mono (by decide)).tr (h3.mono (by decide)), h4, hi.mv h2, Or.inr ⟨h5, h6, ?_⟩⟩
  rw [h7, b 824 (by decide)]
theorem OPR.pre {c : Nat} {r : Int32} {Q : List Pk} {σ τ σ0 τ0 σ' τ' : Mem} (h : OPR c r Q σ0 τ0 σ' τ') (a : FC c σ σ0) (b : Sm MC12 τ τ0) : OPR c r Q σ τ σ' τ' := by
  obtain ⟨h1, h2, h3, h4, h5⟩ := h
  refine ⟨a.tr h1, (b.mono (by decide)).tr h2, h3, h4, ?_⟩
  rw [← b 824 (by decide)]
  exact h5
theorem b_begin {c : Nat} {t : Int32} {Q : List Pk} {σ τ : Mem} (hc : c < 12) (hid : σ 100 c 0 = nI c) (h : REQ σ τ) (ht : t = τ 801 0 0) (hQ : MU τ Q) (hs : σ 102 c 0 = 0 ∨ σ 102 c 0 = 1 ∨ σ 102 c 0 = 2 ∨ σ 102 c 0 = 3) : ∃ r σ' τ', f_X1_begin c t 1 σ = some (r, σ') ∧ f_X8_begin (nI c) τ = some τ' ∧ OPR c r Q σ τ σ' τ' := by
  have e1 : f_X1_begin c t 1 σ = f_X1_say c t 1 (up (up (up (up σ 103 c 0 0) 104 c 0 0) 108 c 0 1) 101 c 0 1) := by
    unfold f_X1_begin f_X1_forget
    simp only [vl_d, bv_s, bn_id]
    rw [up_comm (show 101 ≠ 108 by decide)]
  have e2 : f_X8_begin (nI c) τ = f_X8_sayDiscover (nI c) (up (up (up (up τ 814 0 c 0) 815 0 c 0) 820 0 c 1) 812 0 c 1) := by
    unfold f_X8_begin f_X8_loseAddress
    simp only [gd_p (v12 hc), vl_d, bv_s, bv_id, cln (show c < 2 ^ 31 by omega)]
    rw [up_comm (by decide)]
  have F0 : FC c σ (up (up (up (up σ 103 c 0 0) 104 c 0 0) 108 c 0 1) 101 c 0 1) := FC.uc (by decide) (by decide) (FC.uc (by decide) (by decide) (FC.uc (by decide) (by decide) (FC.uc (by decide) (by decide) FC.rf)))
  have S0 : Sm MC12 τ (up (up (up (up τ 814 0 c 0) 815 0 c 0) 820 0 c 1) 812 0 c 1) := Sm.up (by decide) (Sm.up (by decide) (Sm.up (by decide) (Sm.up (by decide) Sm.rf)))
  have R0 : REQ (up (up (up (up σ 103 c 0 0) 104 c 0 0) 108 c 0 1) 101 c 0 1) (up (up (up (up τ 814 0 c 0) 815 0 c 0) 820 0 c 1) 812 0 c 1) := REQ.up (by decide) (REQ.up (by decide) (REQ.up (by decide) (REQ.up (by decide) h)))
  rw [e1, e2]
  generalize hσ : up (up (up (up σ 103 c 0 0) 104 c 0 0) 108 c 0 1) 101 c 0 1 = σ0 at *
  generalize up (up (up (up τ 814 0 c 0) 815 0 c 0) 820 0 c 1) 812 0 c 1 = τ0 at *
  have I0 : cIV σ0 c := cIV_of (m := 1) (s := σ 102 c 0) (a := 0) (tr := 1) (o := σ 110 c 0) (r := σ 111 c 0) ⟨hs, fun _ => Or.inl rfl, fun e => absurd e (by decide), fun e => absurd e (by decide)⟩ (by rw [← hσ]; simp [up_rd]) (by rw [← hσ]; simp [up_rd]) (by rw [← hσ]; simp [up_rd]) (by rw [← hσ]; simp [up_rd]) (by rw [← hσ]; simp [up_rd]) (by rw [← hσ]; simp [up_rd])
  obtain ⟨pl, σ', τ', a1, a2, a3⟩ := b_say_1 (t := t) hc (by rw [F0.1 100 (by omega)]; exact hid) R0 (by rw [S0 801 (by decide)]; exact ht) (hQ.m12 S0) I0 (by rw [← hσ]; simp [up_rd])
  exact ⟨pl, σ', τ', a1, a2, opr_say F0 S0 I0 a3⟩
theorem b_again {c : Nat} {x t : Int32} {Q : List Pk} {σ τ : Mem} (hc : c < 12) (hid : σ 100 c 0 = nI c) (h : REQ σ τ) (ht : t = τ 801 0 0) (hQ : MU τ Q) (hs : x = 0 ∨ x = 1 ∨ x = 2 ∨ x = 3) : ∃ r σ' τ', f_X1_again c x t 1 σ = some (r, σ') ∧ f_X8_join_33 (nI c) x 0 τ = some τ' ∧ OPR c r Q σ (up τ 800 0 0 0) σ' τ' := by
  unfold f_X1_again f_X8_join_33 f_X1_again_20 f_X8_join_96
  simp only [gd_p (v12 hc), vl_d, bv_id, bn_id, cln (show c < 2 ^ 31 by omega)]
  rw [up_at, if_pos (show (0 : Int32) ≤ 0 by decide)]
  have F0 : FC c σ (up σ 102 c 0 x) := FC.uc (by decide) (by decide) FC.rf
  have hz : REQ σ (up τ 800 0 0 0) := h.mv (fun f a b => rfl) (fun f a b => up_fn (by omega))
  have hQ : MU (up τ 800 0 0 0) Q := hQ.mv (up_fn (by decide)) (up_fn (by decide)) (up_fn (by decide)) (up_fn (by decide))
  have ht : t = up τ 800 0 0 0 801 0 0 := by rw [up_fn (by decide)]; exact ht
  generalize up τ 800 0 0 0 = τz at *
  have S0 : Sm MC12 τz (up τz 813 0 c x) := Sm.up (by decide) Sm.rf
  have R0 : REQ (up σ 102 c 0 x) (up τz 813 0 c x) := REQ.up (by decide) hz
  have x2 : up σ 102 c 0 x 102 c 0 = x := up_at _ _ _ _ _
  generalize up σ 102 c 0 x = σ0 at *
  generalize up τz 813 0 c x = τ0 at *
  have ht0 : t = τ0 801 0 0 := by rw [S0 801 (by decide)]; exact ht
  have hid0 : σ0 100 c 0 = nI c := by rw [F0.1 100 (by omega)]; exact hid
  have B := b_begin (t := t) hc hid0 R0 ht0 (hQ.m12 S0) (by rw [x2]; exact hs)
  rw [RQ_at R0 (f := 103) (g := 814) (by decide) hc, RQ_at R0 (f := 104) (g := 815) (by decide) hc]
  by_cases c1 : σ0 103 c 0 = 0
  · rw [if_pos c1, if_pos c1]
    obtain ⟨r, σ', τ', a1, a2, a3⟩ := B
    exact ⟨r, σ', τ', a1, a2, a3.pre F0 S0⟩
  · rw [if_neg c1, if_neg c1, ← ht0]
    by_cases c2 : t < σ0 104 c 0
    · rw [if_pos c2, if_neg (Int32.not_le.mpr c2)]
      have F1 : FC c σ0 (up (up σ0 101 c 0 6) 108 c 0 1) := FC.uc (by decide) (by decide) (FC.uc (by decide) (by decide) FC.rf)
      have S1 : Sm MC12 τ0 (up (up τ0 812 0 c 6) 820 0 c 1) := Sm.up (by decide) (Sm.up (by decide) Sm.rf)
      have R1 : REQ (up (up σ0 101 c 0 6) 108 c 0 1) (up (up τ0 812 0 c 6) 820 0 c 1) := REQ.up (by decide) (REQ.up (by decide) R0)
      have I1 : cIV (up (up σ0 101 c 0 6) 108 c 0 1) c := cIV_of (m := 6) (s := x) (a := σ0 103 c 0) (tr := 1) (o := σ0 110 c 0) (r := σ0 111 c 0) ⟨hs, fun _ => Or.inl rfl, fun e => absurd e (by decide), fun _ => c1⟩ (by simp [up_rd]) (by simp [up_rd, x2]) (by simp [up_rd]) (by simp [up_rd]) (by simp [up_rd]) (by simp [up_rd])
      obtain ⟨pl, σ', τ', a1, a2, a3⟩ := b_say_6 (t := t) hc (by rw [F1.1 100 (by omega)]; exact hid0) R1 (by rw [S1 801 (by decide)]; exact ht0) ((hQ.m12 S0).m12 S1) I1 (by simp [up_rd])
      exact ⟨pl, σ', τ', a1, a2, opr_say (F0.tr F1) (S0.tr S1) I1 a3⟩
    · rw [if_neg c2, if_pos (Int32.not_lt.mp c2)]
      obtain ⟨r, σ', τ', a1, a2, a3⟩ := B
      exact ⟨r, σ', τ', a1, a2, a3.pre F0 S0⟩
theorem i35 {m : Int32} (h1 : ¬ m < 3) (h2 : ¬ 5 < m) : m = 3 ∨ m = 4 ∨ m = 5 := by
  have a1 : ¬ m.toInt < (3 : Int32).toInt := fun q => h1 (Int32.lt_iff_toInt_lt.mpr q)
  have a2 : ¬ (5 : Int32).toInt < m.toInt := fun q => h2 (Int32.lt_iff_toInt_lt.mpr q)
  rw [show (3 : Int32).toInt = 3 from rfl] at a1
  rw [show (5 : Int32).toInt = 5 from rfl] at a2
  have : m.toInt = 3 ∨ m.toInt = 4 ∨ m.toInt = 5 := by omega
  rcases this with q | q | q
  · exact Or.inl (Int32.toInt_inj.mp q)
  · exact Or.inr (Or.inl (Int32.toInt_inj.mp q))
  · exact Or.inr (Or.inr (Int32.toInt_inj.mp q))
def usx (m : Int32) : Int32 := if m = 3 ∨ m = 4 ∨ m = 5 then 1 else 0
theorem k_uses (c : Nat) (σ : Mem) : f_X1_uses c σ = some (usx (σ 101 c 0), σ) := by
  unfold f_X1_uses f_X1_uses_24 usx
  generalize σ 101 c 0 = m
  by_cases h3 : m = 3
  · simp [h3]
  · by_cases h4 : m = 4
    · simp [h4]
    · by_cases h5 : m = 5
      · simp [h5]
      · simp [h3, h4, h5]
theorem m_uses {c : Nat} {τ : Mem} (hc : c < 12) : f_X8_usesAddress (nI c) τ = some (usx (τ 812 0 c), τ) := by
  unfold f_X8_usesAddress usx
  rw [gd_p (v12 hc), gd_p (v12 hc), cln (by omega)]
  generalize τ 812 0 c = m
  by_cases h1 : m < 3
  · rw [if_pos h1, if_neg (by rintro (rfl | rfl | rfl) <;> exact absurd h1 (by decide))]
  · rw [if_neg h1]
    by_cases h2 : 5 < m
    · rw [if_pos h2, if_neg (by rintro (rfl | rfl | rfl) <;> exact absurd h2 (by decide))]
    · rw [if_neg h2, if_pos (i35 h1 h2)]
theorem mEnc_lo {σ σ' : Mem} {j : Nat} (h : ∀ f, 200 ≤ f → σ' f = σ f) : mEnc σ' j = mEnc σ j := by
  unfold mEnc
  rw [h 200 (by omega), h 201 (by omega), h 202 (by omega), h 203 (by omega), h 204 (by omega), h 205 (by omega), h 206 (by omega), h 207 (by omega), h 208 (by omega), h 209 (by omega), h 210 (by omega)]
theorem b_goAway {c : Nat} {t : Int32} {Q : List Pk} {σ τ : Mem} (hc : c < 12) (hid : σ 100 c 0 = nI c) (h : REQ σ τ) (ht : t = τ 801 0 0) (hQ : MU τ Q) (hi : cIV σ c) : ∃ r σ' τ', f_X1_goAway c t 1 σ = some (r, σ') ∧ f_X8_leave_26 (nI c) 0 τ = some τ' ∧ OPR c r Q σ (up τ 800 0 0 0) σ' τ' := by
  unfold f_X1_goAway f_X8_leave_26 f_X1_goAway_28 f_X8_leave_68 f_X1_forget f_X8_loseAddress
  have R0 : REQ σ (up τ 800 0 0 0) := h.mv (fun f a b => rfl) (fun f a b => up_fn (by omega))
  have hQ : MU (up τ 800 0 0 0) Q := hQ.mv (up_fn (by decide)) (up_fn (by decide)) (up_fn (by decide)) (up_fn (by decide))
  have ht : t = up τ 800 0 0 0 801 0 0 := by rw [up_fn (by decide)]; exact ht
  rw [vl_d, up_at, if_pos (show (0 : Int32) ≤ 0 by decide)]
  generalize up τ 800 0 0 0 = τ0 at *
  have S0 : Sm MC12 τ0 τ0 := Sm.rf
  simp only [k_uses, m_uses hc, bn_s, gd_p (v12 hc), vl_d, bv_s, cln (show c < 2 ^ 31 by omega)]
  rw [RQ_at R0 (f := 101) (g := 812) (by decide) hc, RQ_at R0 (f := 103) (g := 814) (by decide) hc]
  by_cases c1 : usx (σ 101 c 0) = 0
  · rw [if_pos c1, if_pos c1]
    refine ⟨_, _, _, rfl, rfl, opr_id (FC.uc (by decide) (by decide) (FC.uc (by decide) (by decide) (FC.uc (by decide) (by decide) FC.rf))) (Sm.up (by decide) (Sm.up (by decide) (Sm.up (by decide) S0))) (REQ.up (by decide) (REQ.up (by decide) (REQ.up (by decide) R0))) ?_ hQ⟩
    exact cIV_of (m := 0) (s := σ 102 c 0) (a := 0) (tr := σ 108 c 0) (o := σ 110 c 0) (r := σ 111 c 0) ⟨hi.1, fun e => by rcases e with e | e | e <;> exact absurd e (by decide), fun e => absurd e (by decide), fun e => absurd e (by decide)⟩ (by simp [up_rd]) (by simp [up_rd]) (by simp [up_rd]) (by simp [up_rd]) (by simp [up_rd]) (by simp [up_rd])
  · rw [if_neg c1, if_neg c1, k_prepare, bv_s, PRE_cl (f := 103) (by decide) (by decide) (by decide)]
    have K := ksd_pre (t := t) (kind := 7) (ci := σ 103 c 0) (wa := 0) (se := 0) hc hid rfl
    obtain ⟨z1, z2, z3⟩ := PRE_z (c := c) (kind := 7) (t := t) (σ := σ)
    rw [up_same (f := 208) (by rw [up_fn (by decide)]; exact z2), up_same (f := 210) (by rw [up_fn (by decide)]; exact z3)] at K
    obtain ⟨s, e, m, S⟩ := m_say (τ := τ0) 7 (σ 103 c 0) hc
    obtain ⟨q, τ1, e1, f3, f2, e2, S2, m2, l2⟩ := m_close 16 m (by rw [encH_len]; decide) S (hQ.m12 S0)
    rw [e, bv_s, e1, bv_s, e2, bv_s]
    have B : SBT c 16 Q σ τ0 _ τ1 := sbt_of hc R0 (by rw [S0 801 (by decide)]; exact ht) ⟨16, rfl, by decide, by decide⟩ K ⟨S2, m2, l2⟩ rfl rfl rfl rfl
    obtain ⟨p1, p2, p3, p4, p5, p6, p7⟩ := B
    refine ⟨_, _, _, rfl, rfl, FC.uc (by decide) (by decide) (FC.uc (by decide) (by decide) (FC.uc (by decide) (by decide) p1)), Sm.up (by decide) (Sm.up (by decide) (Sm.up (by decide) ((S0.mono (by decide)).tr (p3.mono (by decide))))), REQ.up (by decide) (REQ.up (by decide) (REQ.up (by decide) p4)), ?_, Or.inr ⟨p5, ?_, ?_⟩⟩
    · exact cIV_of (m := 0) (s := σ 102 c 0) (a := 0) (tr := σ 108 c 0) (o := σ 110 c 0) (r := σ 111 c 0) ⟨hi.1, fun e => by rcases e with e | e | e <;> exact absurd e (by decide), fun e => absurd e (by decide), fun e => absurd e (by decide)⟩ (by rw [up_at]) (by rw [up_fn (by decide), up_fn (by decide), up_fn (by decide), p2 102 (by decide) (by decide) (by decide)]) (by rw [up_fn (by decide), up_fn (by decide), up_at]) (by rw [up_fn (by decide), up_fn (by decide), up_fn (by decide), p2 108 (by decide) (by decide) (by decide)]) (by rw [up_fn (by decide), up_fn (by decide), up_fn (by decide), p2 110 (by decide) (by decide) (by decide)]) (by rw [up_fn (by decide), up_fn (by decide), up_fn (by decide), p2 111 (by decide) (by decide) (by decide)])
    · rw [mEnc_lo (σ := up (PRE c 7 t σ) 203 1 0 (σ 103 c 0)) (fun f hf => by rw [up_fn (by omega), up_fn (by omega), up_fn (by omega)])]
      exact p6.mv (by rw [up_fn (by decide), up_fn (by decide), up_fn (by decide)]) (by rw [up_fn (by decide), up_fn (by decide), up_fn (by decide)]) (by rw [up_fn (by decide), up_fn (by decide), up_fn (by decide)]) (by rw [up_fn (by decide), up_fn (by decide), up_fn (by decide)])
    · rw [up_fn (by decide), up_fn (by decide), up_fn (by decide), p7, S0 824 (by decide)]
