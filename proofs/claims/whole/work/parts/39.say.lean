/-! what a client says, on both sides -/
theorem k_97 (c : Nat) (σ : Mem) : f_X1_say_97 c σ = some ((if σ 101 c 0 = 4 then 16 else bpl (σ 102 c 0)), σ) := by
  unfold f_X1_say_97
  by_cases h : σ 101 c 0 = 4
  · rw [if_pos h, if_pos h]
  · rw [if_neg h, if_neg h, k_place, bn_s]
theorem PRE_cl {c : Nat} {kind t : Int32} {σ : Mem} {f : Nat} (h : f < 200) (h1 : f ≠ 107) (h2 : f ≠ 109) : PRE c kind t σ f = σ f := by rw [PRE_lo h, up_fn h2, up_fn h1]
theorem PRE_z {c : Nat} {kind t : Int32} {σ : Mem} : PRE c kind t σ 203 1 0 = 0 ∧ PRE c kind t σ 208 1 0 = 0 ∧ PRE c kind t σ 210 1 0 = 0 := by
  unfold PRE
  simp [up_rd]
theorem k_say_1 {c : Nat} {t : Int32} {σ : Mem} (hc : c < 12) (hid : σ 100 c 0 = nI c) (hm : σ 101 c 0 = 1) : ∃ σ', f_X1_say c t 1 σ = some (bpl (σ 102 c 0), σ') ∧ KSD c t 1 0 0 0 σ σ' := by
  have K := ksd_pre (t := t) (kind := 1) (ci := 0) (wa := 0) (se := 0) hc hid rfl
  obtain ⟨z1, z2, z3⟩ := PRE_z (c := c) (kind := 1) (t := t) (σ := σ)
  rw [up_same z1, up_same z2, up_same z3] at K
  have e1 : PRE c 1 t σ 101 c 0 = 1 := by rw [PRE_cl (by decide) (by decide) (by decide)]; exact hm
  unfold f_X1_say f_X1_say_14
  rw [if_pos hm, k_prepare, bv_s, e1, if_neg (by decide), if_neg (by decide), if_neg (by decide), if_neg (by decide), if_neg (by decide), k_97, e1, if_neg (by decide), PRE_cl (f := 102) (by decide) (by decide) (by decide)]
  exact ⟨_, rfl, K⟩
theorem k_say_2 {c : Nat} {t : Int32} {σ : Mem} (hc : c < 12) (hid : σ 100 c 0 = nI c) (hm : σ 101 c 0 = 2) : ∃ σ', f_X1_say c t 1 σ = some (bpl (σ 102 c 0), σ') ∧ KSD c t 3 0 (σ 110 c 0) (σ 111 c 0) σ σ' := by
  have K := ksd_pre (t := t) (kind := 3) (ci := 0) (wa := σ 110 c 0) (se := σ 111 c 0) hc hid rfl
  obtain ⟨z1, z2, z3⟩ := PRE_z (c := c) (kind := 3) (t := t) (σ := σ)
  rw [up_same z1] at K
  have e1 : PRE c 3 t σ 101 c 0 = 2 := by rw [PRE_cl (by decide) (by decide) (by decide)]; exact hm
  unfold f_X1_say f_X1_say_14
  rw [if_neg (by rw [hm]; decide), k_prepare, bv_s, e1, if_pos rfl, vl_d, vl_d, k_97, up_fn (f := 208) (f' := 111) (by decide), PRE_cl (f := 110) (by decide) (by decide) (by decide), PRE_cl (f := 111) (by decide) (by decide) (by decide)]
  rw [show ∀ x y, up (up (PRE c 3 t σ) 208 1 0 x) 210 1 0 y 101 c 0 = 2 from fun x y => by rw [up_fn (by decide), up_fn (by decide)]; exact e1, if_neg (by decide)]
  rw [show ∀ x y, up (up (PRE c 3 t σ) 208 1 0 x) 210 1 0 y 102 c 0 = σ 102 c 0 from fun x y => by rw [up_fn (by decide), up_fn (by decide), PRE_cl (by decide) (by decide) (by decide)]]
  exact ⟨_, rfl, K⟩
theorem k_say_4 {c : Nat} {t : Int32} {σ : Mem} (hc : c < 12) (hid : σ 100 c 0 = nI c) (hm : σ 101 c 0 = 4) : ∃ σ', f_X1_say c t 1 σ = some (16, σ') ∧ KSD c t 3 (σ 103 c 0) 0 0 σ σ' := by
  have K := ksd_pre (t := t) (kind := 3) (ci := σ 103 c 0) (wa := 0) (se := 0) hc hid rfl
  obtain ⟨z1, z2, z3⟩ := PRE_z (c := c) (kind := 3) (t := t) (σ := σ)
  rw [up_same (f := 208) (by rw [up_fn (by decide)]; exact z2), up_same (f := 210) (by rw [up_fn (by decide)]; exact z3)] at K
  have e1 : PRE c 3 t σ 101 c 0 = 4 := by rw [PRE_cl (by decide) (by decide) (by decide)]; exact hm
  unfold f_X1_say f_X1_say_14
  rw [if_neg (by rw [hm]; decide), k_prepare, bv_s, e1, if_neg (by decide), if_neg (by decide), if_pos rfl, vl_d, k_97, PRE_cl (f := 103) (by decide) (by decide) (by decide)]
  rw [show ∀ x, up (PRE c 3 t σ) 203 1 0 x 101 c 0 = 4 from fun x => by rw [up_fn (by decide)]; exact e1, if_pos rfl]
  exact ⟨_, rfl, K⟩
theorem k_say_5 {c : Nat} {t : Int32} {σ : Mem} (hc : c < 12) (hid : σ 100 c 0 = nI c) (hm : σ 101 c 0 = 5) : ∃ σ', f_X1_say c t 1 σ = some (bpl (σ 102 c 0), σ') ∧ KSD c t 3 (σ 103 c 0) 0 0 σ σ' := by
  have K := ksd_pre (t := t) (kind := 3) (ci := σ 103 c 0) (wa := 0) (se := 0) hc hid rfl
  obtain ⟨z1, z2, z3⟩ := PRE_z (c := c) (kind := 3) (t := t) (σ := σ)
  rw [up_same (f := 208) (by rw [up_fn (by decide)]; exact z2), up_same (f := 210) (by rw [up_fn (by decide)]; exact z3)] at K
  have e1 : PRE c 3 t σ 101 c 0 = 5 := by rw [PRE_cl (by decide) (by decide) (by decide)]; exact hm
  unfold f_X1_say f_X1_say_14
  rw [if_neg (by rw [hm]; decide), k_prepare, bv_s, e1, if_neg (by decide), if_neg (by decide), if_neg (by decide), if_pos rfl, vl_d, k_97, PRE_cl (f := 103) (by decide) (by decide) (by decide)]
  rw [show ∀ x, up (PRE c 3 t σ) 203 1 0 x 101 c 0 = 5 from fun x => by rw [up_fn (by decide)]; exact e1, if_neg (by decide)]
  rw [show ∀ x, up (PRE c 3 t σ) 203 1 0 x 102 c 0 = σ 102 c 0 from fun x => by rw [up_fn (by decide), PRE_cl (by decide) (by decide) (by decide)]]
  exact ⟨_, rfl, K⟩
theorem k_say_6 {c : Nat} {t : Int32} {σ : Mem} (hc : c < 12) (hid : σ 100 c 0 = nI c) (hm : σ 101 c 0 = 6) : ∃ σ', f_X1_say c t 1 σ = some (bpl (σ 102 c 0), σ') ∧ KSD c t 3 0 (σ 103 c 0) 0 σ σ' := by
  have K := ksd_pre (t := t) (kind := 3) (ci := 0) (wa := σ 103 c 0) (se := 0) hc hid rfl
  obtain ⟨z1, z2, z3⟩ := PRE_z (c := c) (kind := 3) (t := t) (σ := σ)
  rw [up_same z1, up_same (f := 210) (by rw [up_fn (by decide)]; exact z3)] at K
  have e1 : PRE c 3 t σ 101 c 0 = 6 := by rw [PRE_cl (by decide) (by decide) (by decide)]; exact hm
  unfold f_X1_say f_X1_say_14
  rw [if_neg (by rw [hm]; decide), k_prepare, bv_s, e1, if_neg (by decide), if_neg (by decide), if_neg (by decide), if_neg (by decide), if_pos rfl, vl_d, k_97, PRE_cl (f := 103) (by decide) (by decide) (by decide)]
  rw [show ∀ x, up (PRE c 3 t σ) 208 1 0 x 101 c 0 = 6 from fun x => by rw [up_fn (by decide)]; exact e1, if_neg (by decide)]
  rw [show ∀ x, up (PRE c 3 t σ) 208 1 0 x 102 c 0 = σ 102 c 0 from fun x => by rw [up_fn (by decide), PRE_cl (by decide) (by decide) (by decide)]]
  exact ⟨_, rfl, K⟩
/-! the model -/
abbrev M7 : List Nat := [823, 824, 825, 826, 827, 828, 829]
def TUP (c : Nat) (τ : Mem) : Mem := up (up τ 818 0 c (τ 818 0 c + 1)) 819 0 c (τ 801 0 0)
theorem TUP_f {c : Nat} {τ : Mem} {f : Nat} (h1 : f ≠ 818) (h2 : f ≠ 819) : TUP c τ f = τ f := by unfold TUP; rw [up_fn h2, up_fn h1]
def MSD (c : Nat) (pl : Int32) (Q : List Pk) (kind ci wa se : Int32) (τ τ' : Mem) : Prop := Sm M7 (TUP c τ) τ' ∧ MU τ' (qp Q (pl, CM c (τ 818 0 c + 1) ci kind wa se)) ∧ τ' 824 0 0 = lqx Q (τ 824 0 0)
theorem v12 {c : Nat} (hc : c < 12) : vin (nI c) 12 = true := vin_n hc (by decide)
theorem m_say {τ : Mem} {c : Nat} (kind ci : Int32) (hc : c < 12) : ∃ s, f_X8_say (nI c) kind ci τ = some s ∧ ML s (encH 1 0 (τ 818 0 c + 1) ci 0 0 (nI c) kind) ∧ Sm [828, 829] (TUP c τ) s := by
  unfold f_X8_say
  rw [gd_p (v12 hc), gd_p (v12 hc), vl_d, gd_p (v12 hc), vl_d, gd_p (v12 hc), cln (by omega)]
  rw [up_fn (f := 818) (f' := 801) (by decide)]
  rw [show up (up τ 818 0 c (τ 818 0 c + 1)) 819 0 c (τ 801 0 0) 818 0 c = τ 818 0 c + 1 by rw [up_fn (by decide), up_at]]
  obtain ⟨s, e, m, S⟩ := v_make (σ := up (up τ 818 0 c (τ 818 0 c + 1)) 819 0 c (τ 801 0 0)) 1 (τ 818 0 c + 1) ci 0 0 (nI c) kind
  rw [e, bv_s]
  exact ⟨s, rfl, m, S⟩
theorem m_close {τ s : Mem} {c : Nat} {Q : List Pk} {L : List Int32} (pl : Int32) (hm : ML s L) (hL : L.length < 60) (S : Sm [828, 829] (TUP c τ) s) (hQ : MU τ Q) : ∃ q τ', f_X8_finish s = some q ∧ q 813 = τ 813 ∧ q 812 = τ 812 ∧ f_X8_send pl q = some τ' ∧ Sm M7 (TUP c τ) τ' ∧ MU τ' (qp Q (pl, L ++ [255])) ∧ τ' 824 0 0 = lqx Q (τ 824 0 0) := by
  obtain ⟨q, e1, m1, S1⟩ := v_finish hm (by omega)
  have S2 := S.tr S1
  have fr : ∀ f, f ≠ 818 → f ≠ 819 → f ≠ 828 → f ≠ 829 → q f = τ f := fun f a b d e => (S2 f (by simp [d, e])).trans (TUP_f a b)
  have hQ1 : MU q Q := hQ.mv (fr _ (by decide) (by decide) (by decide) (by decide)) (fr _ (by decide) (by decide) (by decide) (by decide)) (fr _ (by decide) (by decide) (by decide) (by decide)) (fr _ (by decide) (by decide) (by decide) (by decide))
  obtain ⟨τ', e2, m2, l2, S3⟩ := v_send pl hQ1 m1 (by rw [List.length_append]; show L.length + 1 ≤ 60; omega)
  refine ⟨q, τ', e1, fr _ (by decide) (by decide) (by decide) (by decide), fr _ (by decide) (by decide) (by decide) (by decide), e2, (S2.mono (by decide)).tr (S3.mono (by decide)), m2, ?_⟩
  rw [l2, fr 824 (by decide) (by decide) (by decide) (by decide)]
  rfl
theorem m_broadcast {τ : Mem} {c : Nat} (hc : c < 12) : f_X8_broadcast (nI c) τ = f_X8_send (bpl (τ 813 0 c)) τ := by
  unfold f_X8_broadcast f_X8_broadcast_24 bpl
  rw [gd_p (v12 hc), gd_p (v12 hc), cln (by omega)]
  by_cases h : τ 813 0 c = 0
  · rw [if_pos h, if_pos h, bv_id]
  · rw [if_neg h, if_neg h, bv_id]
theorem m_sayDiscover {τ : Mem} {c : Nat} {Q : List Pk} (hc : c < 12) (hQ : MU τ Q) : ∃ τ', f_X8_sayDiscover (nI c) τ = some τ' ∧ MSD c (bpl (τ 813 0 c)) Q 1 0 0 0 τ τ' := by
  obtain ⟨s, e, m, S⟩ := m_say (τ := τ) 1 0 hc
  obtain ⟨q, τ', e1, f3, f2, e2, S2, m2, l2⟩ := m_close (bpl (τ 813 0 c)) m (by rw [encH_len]; decide) S hQ
  unfold f_X8_sayDiscover
  rw [e, bv_s, e1, bv_s, m_broadcast hc, f3, e2, bv_s]
  exact ⟨τ', rfl, S2, m2, l2⟩
theorem m_sayRequest {τ : Mem} {c : Nat} {Q : List Pk} (hc : c < 12) (hQ : MU τ Q) (ho : ¬ τ 821 0 c = 0) (hr : ¬ τ 822 0 c = 0) : ∃ τ', f_X8_sayRequest (nI c) τ = some τ' ∧ MSD c (bpl (τ 813 0 c)) Q 3 0 (τ 821 0 c) (τ 822 0 c) τ τ' := by
  obtain ⟨s, e, m, S⟩ := m_say (τ := τ) 3 0 hc
  have a1 : s 821 0 c = τ 821 0 c := by rw [S 821 (by decide), TUP_f (by decide) (by decide)]
  obtain ⟨s1, e1, m1, S1⟩ := v_option 50 (τ 821 0 c) m ho (by rw [encH_len]; decide)
  have a2 : s1 822 0 c = τ 822 0 c := by rw [S1 822 (by decide), S 822 (by decide), TUP_f (by decide) (by decide)]
  have l1 := o6_len 50 (τ 821 0 c)
  have l2 := o6_len 54 (τ 822 0 c)
  have l0 := encH_len 1 0 (τ 818 0 c + 1) 0 0 0 (nI c) 3
  obtain ⟨s2, e2, m2, S2⟩ := v_option 54 (τ 822 0 c) m1 hr (by rw [List.length_append]; omega)
  obtain ⟨q, τ', e3, f3, f2, e4, S4, m4, l4⟩ := m_close (bpl (τ 813 0 c)) m2 (by rw [List.length_append, List.length_append]; omega) (S.tr (S1.tr S2)) hQ
  unfold f_X8_sayRequest
  rw [e, bv_s, gd_p (v12 hc), cln (by omega), a1, e1, bv_s, gd_p (v12 hc), a2, e2, bv_s, e3, bv_s, m_broadcast hc, f3, e4, bv_s]
  refine ⟨τ', rfl, S4, ?_, l4⟩
  unfold CM
  rw [List.append_assoc, List.append_assoc] at m4
  exact m4
theorem m_sayReboot {τ : Mem} {c : Nat} {Q : List Pk} (hc : c < 12) (hQ : MU τ Q) (ho : ¬ τ 814 0 c = 0) : ∃ τ', f_X8_sayReboot (nI c) τ = some τ' ∧ MSD c (bpl (τ 813 0 c)) Q 3 0 (τ 814 0 c) 0 τ τ' := by
  obtain ⟨s, e, m, S⟩ := m_say (τ := τ) 3 0 hc
  have a1 : s 814 0 c = τ 814 0 c := by rw [S 814 (by decide), TUP_f (by decide) (by decide)]
  obtain ⟨s1, e1, m1, S1⟩ := v_option 50 (τ 814 0 c) m ho (by rw [encH_len]; decide)
  have l1 := o6_len 50 (τ 814 0 c)
  have l0 := encH_len 1 0 (τ 818 0 c + 1) 0 0 0 (nI c) 3
  obtain ⟨q, τ', e3, f3, f2, e4, S4, m4, l4⟩ := m_close (bpl (τ 813 0 c)) m1 (by rw [List.length_append]; omega) (S.tr S1) hQ
  unfold f_X8_sayReboot
  rw [e, bv_s, gd_p (v12 hc), cln (by omega), a1, e1, bv_s, e3, bv_s, m_broadcast hc, f3, e4, bv_s]
  refine ⟨τ', rfl, S4, ?_, l4⟩
  unfold CM
  rw [List.append_assoc] at m4
  exact m4
theorem m_sayRenew {τ : Mem} {c : Nat} {Q : List Pk} (hc : c < 12) (hQ : MU τ Q) : ∃ τ', f_X8_sayRenew (nI c) τ = some τ' ∧ MSD c (if τ 812 0 c = 4 then 16 else bpl (τ 813 0 c)) Q 3 (τ 814 0 c) 0 0 τ τ' := by
  obtain ⟨s, e, m, S⟩ := m_say (τ := τ) 3 (τ 814 0 c) hc
  obtain ⟨q, τ', e1, f3, f2, e2, S2, m2, l2⟩ := m_close (if τ 812 0 c = 4 then 16 else bpl (τ 813 0 c)) m (by rw [encH_len]; decide) S hQ
  unfold f_X8_sayRenew
  rw [gd_p (v12 hc), cln (by omega), e, bv_s, e1, bv_s, gd_p (v12 hc), f2]
  refine ⟨τ', ?_, S2, m2, l2⟩
  by_cases h : τ 812 0 c = 4
  · rw [if_pos h, bv_id]
    rw [if_pos h] at e2
    exact e2
  · rw [if_neg h, bv_id, m_broadcast hc, f3]
    rw [if_neg h] at e2
    exact e2
/-! both -/
def SBT (c : Nat) (pl : Int32) (Q : List Pk) (σ τ σ' τ' : Mem) : Prop := FC c σ σ' ∧ (∀ f, f < 200 → f ≠ 107 → f ≠ 109 → σ' f = σ f) ∧ Sm [818, 819, 823, 824, 825, 826, 827, 828, 829] τ τ' ∧ REQ σ' τ' ∧ PLC pl ∧ MU τ' (qp Q (pl, mEnc σ' 1)) ∧ τ' 824 0 0 = lqx Q (τ 824 0 0)
theorem sbt_of {c : Nat} {pl pl2 t kind ci ci2 wa wa2 se se2 : Int32} {Q : List Pk} {σ τ σ' τ' : Mem} (hc : c < 12) (h : REQ σ τ) (ht : t = τ 801 0 0) (hpl : PLC pl) (hk : KSD c t kind ci wa se σ σ') (hm : MSD c pl2 Q kind ci2 wa2 se2 τ τ') (e0 : pl2 = pl) (e1 : ci2 = ci) (e2 : wa2 = wa) (e3 : se2 = se) : SBT c pl Q σ τ σ' τ' := by
  subst e0 e1 e2 e3
  have ex : σ 107 c 0 = τ 818 0 c := h (107, 818) (by decide) c hc
  obtain ⟨k1, k2, k3⟩ := hk
  obtain ⟨m1, m2, m3⟩ := hm
  refine ⟨k1, fun f a b d => by rw [k2 f a, up_fn d, up_fn b], ?_, ?_, hpl, ?_, m3⟩
  · have : Sm [818, 819, 823, 824, 825, 826, 827, 828, 829] τ (TUP c τ) := by unfold TUP; exact Sm.up (by decide) (Sm.up (by decide) Sm.rf)
    exact this.tr (m1.mono (by decide))
  · have h2 : REQ (up (up σ 107 c 0 (σ 107 c 0 + 1)) 109 c 0 t) (TUP c τ) := by
      unfold TUP
      rw [ht, ex]
      exact REQ.up (by decide) (REQ.up (by decide) h)
    exact h2.mv (fun f a b => k2 f (by omega)) (fun f a b => m1 f (by simp; omega))
  · rw [k3, ex]; exact m2
theorem RQ_at {σ τ : Mem} (h : REQ σ τ) {f g c : Nat} (hp : (f, g) ∈ PRS) (hc : c < 12) : τ g 0 c = σ f c 0 := (h (f, g) hp c hc).symm
theorem b_say_1 {c : Nat} {t : Int32} {Q : List Pk} {σ τ : Mem} (hc : c < 12) (hid : σ 100 c 0 = nI c) (h : REQ σ τ) (ht : t = τ 801 0 0) (hQ : MU τ Q) (hi : cIV σ c) (hm : σ 101 c 0 = 1) : ∃ pl σ' τ', f_X1_say c t 1 σ = some (pl, σ') ∧ f_X8_sayDiscover (nI c) τ = some τ' ∧ SBT c pl Q σ τ σ' τ' := by
  obtain ⟨σ', a1, a2⟩ := k_say_1 (t := t) hc hid hm
  obtain ⟨τ', b1, b2⟩ := m_sayDiscover hc hQ
  exact ⟨_, σ', τ', a1, b1, sbt_of hc h ht (bpl_ok hi.1) a2 b2 (by rw [RQ_at h (f := 102) (by decide) hc]) rfl rfl rfl⟩
theorem b_say_2 {c : Nat} {t : Int32} {Q : List Pk} {σ τ : Mem} (hc : c < 12) (hid : σ 100 c 0 = nI c) (h : REQ σ τ) (ht : t = τ 801 0 0) (hQ : MU τ Q) (hi : cIV σ c) (hm : σ 101 c 0 = 2) : ∃ pl σ' τ', f_X1_say c t 1 σ = some (pl, σ') ∧ f_X8_sayRequest (nI c) τ = some τ' ∧ SBT c pl Q σ τ σ' τ' := by
  obtain ⟨σ', a1, a2⟩ := k_say_2 (t := t) hc hid hm
  have e1 := RQ_at h (f := 110) (g := 821) (by decide) hc
  have e2 := RQ_at h (f := 111) (g := 822) (by decide) hc
  obtain ⟨n1, n2⟩ := hi.2.2.1 hm
  obtain ⟨τ', b1, b2⟩ := m_sayRequest hc hQ (by rw [e1]; exact n1) (by rw [e2]; exact n2)
  exact ⟨_, σ', τ', a1, b1, sbt_of hc h ht (bpl_ok hi.1) a2 b2 (by rw [RQ_at h (f := 102) (by decide) hc]) rfl e1 e2⟩
theorem b_say_45 {c : Nat} {t : Int32} {Q : List Pk} {σ τ : Mem} (hc : c < 12) (hid : σ 100 c 0 = nI c) (h : REQ σ τ) (ht : t = τ 801 0 0) (hQ : MU τ Q) (hi : cIV σ c) (hm : σ 101 c 0 = 4 ∨ σ 101 c 0 = 5) : ∃ pl σ' τ', f_X1_say c t 1 σ = some (pl, σ') ∧ f_X8_sayRenew (nI c) τ = some τ' ∧ SBT c pl Q σ τ σ' τ' := by
  obtain ⟨τ', b1, b2⟩ := m_sayRenew hc hQ
  have e3 := RQ_at h (f := 101) (g := 812) (by decide) hc
  rcases hm with hm | hm
  · obtain ⟨σ', a1, a2⟩ := k_say_4 (t := t) hc hid hm
    exact ⟨_, σ', τ', a1, b1, sbt_of hc h ht ⟨16, rfl, by decide, by decide⟩ a2 b2 (by rw [e3, hm]; rfl) (RQ_at h (f := 103) (by decide) hc) rfl rfl⟩
  · obtain ⟨σ', a1, a2⟩ := k_say_5 (t := t) hc hid hm
    exact ⟨_, σ', τ', a1, b1, sbt_of hc h ht (bpl_ok hi.1) a2 b2 (by rw [e3, hm, RQ_at h (f := 102) (by decide) hc]; rfl) (RQ_at h (f := 103) (by decide) hc) rfl rfl⟩
theorem b_say_6 {c : Nat} {t : Int32} {Q : List Pk} {σ τ : Mem} (hc : c < 12) (hid : σ 100 c 0 = nI c) (h : REQ σ τ) (ht : t = τ 801 0 0) (hQ : MU τ Q) (hi : cIV σ c) (hm : σ 101 c 0 = 6) : ∃ pl σ' τ', f_X1_say c t 1 σ = some (pl, σ') ∧ f_X8_sayReboot (nI c) τ = some τ' ∧ SBT c pl Q σ τ σ' τ' := by
  obtain ⟨σ', a1, a2⟩ := k_say_6 (t := t) hc hid hm
  have e1 := RQ_at h (f := 103) (g := 814) (by decide) hc
  obtain ⟨τ', b1, b2⟩ := m_sayReboot hc hQ (by rw [e1]; exact hi.2.2.2 hm)
  exact ⟨_, σ', τ', a1, b1, sbt_of hc h ht (bpl_ok hi.1) a2 b2 (by rw [RQ_at h (f := 102) (by decide) hc]) rfl e1 rfl⟩
