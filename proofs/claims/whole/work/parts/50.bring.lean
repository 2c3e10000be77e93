/-! a packet comes, on both sides -/
def RUN2 (σ τ σ' τ' : Mem) (T : List Int32) : Prop := RST σ' τ' ∧ (∃ Q', RQT σ' τ' Q' T) ∧ CLO σ σ' ∧ MHI τ τ'
/-- what bring does once a message has been read -/
def hAt (x3 : Int32) (s2 : Mem) : Option (Int32 × Mem) := (if x3 = (16 : Int32) then bn (f_X6_hear 0 (s2 708 0 0) 1 s2) (fun r20 s19 => bv (f_X5_post r20 1 s19) (fun s22 => some (x3, s22))) else bn (f_X7_isClient x3 s2) (fun r8 s7 => (if r8 = (0 : Int32) then bv (f_X7_passOn (x3 - (12 : Int32)) s7) (fun s11 => some (x3, s11)) else bn (f_X7_isAddress (s7 204 0 0) s7) (fun r14 s13 => (if r14 = (0 : Int32) then f_X7_bring_138 x3 s13 else gd (vin (s13 204 0 0) 1024) ((if (s13 703 0 ((s13 204 0 0)).toNatClampNeg) = (0 : Int32) then f_X7_bring_138 x3 s13 else f_X7_bring_139 x3 (1 : Int32) s13)))))))
theorem b44 (x : Int32) (σ : Mem) : f_X7_bring_44 x σ = bn (f_X2_read 0 61 σ) (fun r3 s2 => if r3 = (0 : Int32) then some (x, s2) else hAt x s2) := rfl
theorem b_hearAt {σ τ : Mem} {Q : List Pk} {T L : List Int32} {s4 : St4} {p : Nat} (h : RST σ τ) (hq : RQT σ τ Q T) (H : HMS σ τ L s4) (hB : BY L) (hb : BL σ 61 L) (hp : p ≤ 16) (hp2 : p ≠ 12) : ∃ σ' τ', hAt (nI p) σ = some (nI p, σ') ∧ (if nI p = 16 then f_X8_serve τ else if nI p ≤ 12 then f_X8_hear (nI p) τ else f_X8_relay (nI p) τ) = some τ' ∧ RUN2 σ τ σ' τ' T := by
  have h0 := h
  have hq0 := hq
  obtain ⟨h1, h2, h3, h4, h5, h6, h7, h8⟩ := h
  obtain ⟨q1, q2, q3, q4, q5, q6, q7⟩ := hq
  unfold hAt
  by_cases c16 : p = 16
  · subst c16
    rw [if_pos (show nI 16 = 16 from rfl), if_pos (show nI 16 = 16 from rfl)]
    obtain ⟨r, σ1, τ1, e1, e2, o⟩ := b_serve h4 h7 h8 h6 q2 h1 H
    obtain ⟨σ2, Q', e3, k1, k2, k3, k4⟩ := end_server h0 hq0 o
    rw [e1, bn_s, e3, bv_s, e2]
    exact ⟨_, _, rfl, rfl, k1, ⟨Q', k2⟩, k3, k4⟩
  · have n16 : ¬ nI p = 16 := fun q => c16 ((nI_eq (b := 16) (by omega) (by decide)).mp q)
    rw [if_neg n16, if_neg n16]
    rcases Nat.lt_or_ge p 12 with c12 | c12
    · rw [if_pos (show nI p ≤ 12 from nI_le (b := 12) (by omega) (by decide))]
      have ecl : f_X7_isClient (nI p) σ = some (1, σ) := by
        unfold f_X7_isClient
        rw [if_neg (nI_pos (by omega)), if_neg (show ¬ (12 : Int32) ≤ nI p from nI_ge (a := p) (b := 12) c12 (by decide))]
      rw [ecl, bn_s, i10]
      have fin : ∀ x2, STX x2 (fr L 10) τ → ∃ σ' τ', f_X7_bring_139 (nI p) x2 σ = some (nI p, σ') ∧ f_X8_hear (nI p) τ = some τ' ∧ RUN2 σ τ σ' τ' T := by
        intro x2 hx
        unfold f_X7_bring_139
        obtain ⟨r, σ1, τ1, e1, e2, o⟩ := b_hear (t := σ 708 0 0) c12 (h2 p c12).1 h3 h1 q2 (h2 p c12).2 H hx
        obtain ⟨σ2, Q', e3, k1, k2, k3, k4⟩ := end_client c12 h0 hq0 o
        rw [gd_p (v12 c12), cln (by omega), e1, bn_s, e3, bv_s, e2]
        exact ⟨_, _, rfl, rfl, k1, ⟨Q', k2⟩, k3, k4⟩
      have d4 : σ 204 0 0 = fr L 10 := H.1.2.2.2.2.1
      rw [d4]
      unfold f_X7_bring_138
      rcases adr_cases (fr L 10) with ⟨n, a1, a2, a3, a4, a5⟩ | ⟨a4, a5, -⟩
      · rw [a4, bn_s, i10, d4, a3, gd_p (vin_n a2 (by decide)), cln (by omega), h5 n a2]
        by_cases c0 : τ 805 0 n = 0
        · rw [if_pos c0]
          exact fin 0 (Or.inl ⟨rfl, Or.inr ⟨n, a2, a3, a5, c0⟩⟩)
        · rw [if_neg c0]
          exact fin 1 (Or.inr ⟨rfl, n, a2, a3, a5, c0⟩)
      · rw [a4, bn_s, i00]
        exact fin 0 (Or.inl ⟨rfl, Or.inl a5⟩)
    · rw [if_neg (show ¬ nI p ≤ 12 from nI_ge (a := 12) (b := p) (by omega) (by omega))]
      have ecl : f_X7_isClient (nI p) σ = some (0, σ) := by
        unfold f_X7_isClient
        rw [if_neg (nI_pos (by omega)), if_pos (show (12 : Int32) ≤ nI p from nI_le (a := 12) (by omega) (by omega))]
      rw [ecl, bn_s, i00]
      obtain ⟨σ', τ', Q', e1, e2, k1, k2, k3, k4, k5, k6, k7⟩ := b_relay (p := p) (by omega) H hB hb q1 q2 q3 q4
      rw [e1, bv_s]
      refine ⟨σ', τ', rfl, e2, h0.mv (fun f x => k5 f (by simp; omega)) (fun f x y => k7 f (by simp; omega)), ⟨Q', k1, k2, k3, k4, q5.mv (k6 0) (k6 1), q6.mv (k7 _ (by decide)) (k7 _ (by decide)), q7⟩, fun f x => k5 f (by simp; omega), fun f x => k7 f (by simp; omega)⟩
theorem m_come {τ : Mem} (x : Int32) : f_X8_come x τ = bv (f_X8_look τ) (fun s2 => if s2 832 0 0 = 0 then (if x = 16 then f_X8_serve s2 else if x ≤ 12 then f_X8_hear x s2 else f_X8_relay x s2) else some s2) := by
  unfold f_X8_come
  simp only [bv_id]
theorem PM_len {L : List Int32} {s : St4} (h : PM L = some s) : 19 ≤ L.length := by
  unfold PM at h
  by_cases q : L.length < 19
  · rw [if_pos q] at h; cases h
  · omega
theorem b_come {σ τ : Mem} {Q : List Pk} {T L : List Int32} {p : Nat} (h : RST σ τ) (hq : RQT σ τ Q T) (hb : BL σ 61 L) (hm : ML τ L) (hB : BY L) (hL : L.length ≤ 60) (hp : p ≤ 16) (hp2 : p ≠ 12) : ∃ σ' τ', f_X7_bring_44 (nI p) σ = some (nI p, σ') ∧ f_X8_come (nI p) τ = some τ' ∧ RUN2 σ τ σ' τ' T := by
  obtain ⟨r, σ1, e1, F1, r0, r1⟩ := v_read hb hL hB
  obtain ⟨τ1, e2, S1, m0, m1⟩ := v_look hm hL hB
  have a : ∀ f, (f < 200 ∨ 210 < f) → σ1 f = σ f := fun f x => F1.1 f (by simp; omega)
  have b : ∀ f, (f < 832 ∨ 836 < f) → τ1 f = τ f := fun f x => S1 f (by simp; omega)
  have h1 : RST σ1 τ1 := h.mv (fun f x => a f (by omega)) (fun f x y => b f (by omega))
  have q1 : RQT σ1 τ1 Q T := hq.mv (fun f x => a f (by omega)) (fun f j x y => by rw [a f (by omega)]) (fun f x => b f (by omega))
  have C1 : CLO σ σ1 := fun f x => a f (by omega)
  have M1 : MHI τ τ1 := fun f x => b f (by omega)
  rw [m_come, e2, bv_s, b44, e1, bn_s]
  cases hP : PM L with
  | none =>
    rw [if_pos (r0 hP), if_neg (by rw [m0 hP]; decide)]
    exact ⟨_, _, rfl, rfl, h1, ⟨Q, q1⟩, C1, M1⟩
  | some s4 =>
    obtain ⟨x1, x2, x3⟩ := r1 s4 hP
    obtain ⟨y1, y2⟩ := m1 s4 hP
    rw [x1, i10, if_pos y1]
    have H : HMS σ1 τ1 L s4 := ⟨x2, x3, hm.mv (b _ (by omega)) (b _ (by omega)), y2, PM_len hP, hL⟩
    obtain ⟨σ2, τ2, z1, z2, z3, z4, z5, z6⟩ := b_hearAt h1 q1 H hB (hb.mv (by rw [a 0 (by omega)]) (by rw [a 1 (by omega)])) hp hp2
    rw [z1, z2]
    exact ⟨_, _, rfl, rfl, z3, z4, C1.tr z5, M1.tr z6⟩
theorem b_carry {σ τ : Mem} {Q : List Pk} {T : List Int32} {k : Nat} (h : RST σ τ) (hq : RQT σ τ Q T) (hk : k < Q.length) : ∃ pl σ' τ', f_X7_bring (nI k) 1 σ = some (pl, σ') ∧ f_X8_carryOne (nI k) τ = some (pl, τ') ∧ RUN2 σ τ σ' τ' T := by
  obtain ⟨q1, q2, q3, q4, q5, q6, q7⟩ := hq
  have hk60 : k < 60 := by have := q1.2.1; omega
  obtain ⟨p, hp⟩ : ∃ p, Q[k]? = some p := ⟨Q[k], List.getElem?_eq_getElem hk⟩
  obtain ⟨⟨n, en, hn1, hn2⟩, hB, hL⟩ := q4 p (List.mem_of_getElem? hp)
  obtain ⟨c1, c2⟩ := q1.2.2.2.2 k p hp
  have hpi := q1.2.2.1 k hk60
  obtain ⟨σ1, e1, b1, F1⟩ := v_copy (j0 := 61) hL (by omega) c2
  have C1 : CQ σ1 Q := q1.mv (fun f x => F1.1 f (by omega) (by omega)) (fun f j x y => F1.2 f j (by omega))
  obtain ⟨σ2, e2, C2, S2⟩ := v_remove C1 hk
  obtain ⟨τ1, f1, m1, T1⟩ := v_takeMessage q2 hp
  obtain ⟨τ2, f2, M2, T2⟩ := v_mremove (q2.mv (T1 _ (by decide)) (T1 _ (by decide)) (T1 _ (by decide)) (T1 _ (by decide))) hk
  have a : ∀ f, ¬ f = 0 → ¬ f = 1 → ¬ f = 500 → ¬ f = 501 → σ2 f = σ f := fun f x y z w => (S2 f (by simp [z, w])).trans (F1.1 f x y)
  have b : ∀ f, (f < 823 ∨ 829 < f ∨ f = 824) → τ2 f = τ f := fun f x => (T2 f (by simp; omega)).trans (T1 f (by simp; omega))
  have h2 : RST σ2 τ2 := h.mv (fun f x => a f (by omega) (by omega) (by omega) (by omega)) (fun f x y => b f (by omega))
  have Q2 : RQT σ2 τ2 (Q.eraseIdx k) T := by
    refine ⟨C2, M2, ?_, fun p hp => q4 p (List.mem_of_mem_eraseIdx hp), ?_, q6.mv (b _ (by omega)) (b _ (by omega)), q7⟩
    · rw [a 502 (by decide) (by decide) (by decide) (by decide), b 824 (by omega)]; exact q3
    · exact q5.mv (by rw [S2 0 (by decide), F1.2 0 60 (by decide)]) (by rw [S2 1 (by decide), F1.2 1 60 (by decide)])
  obtain ⟨σ3, τ3, z1, z2, z3, z4, z5, z6⟩ := b_come (p := n) h2 Q2 (b1.mv (by rw [S2 0 (by decide)]) (by rw [S2 1 (by decide)])) (m1.mv (T2 _ (by decide)) (T2 _ (by decide))) hB hL hn1 hn2
  refine ⟨nI n, σ3, τ3, ?_, ?_, z3, z4, CLO.tr (fun f x => a f (by omega) (by omega) (by omega) (by omega)) z5, MHI.tr (fun f x => b f (by omega)) z6⟩
  · unfold f_X7_bring
    rw [gd_p (vin_n hk60 (by decide)), cln (by omega)]
    have e1 : f_X0_copy 61 (σ 500 0 k).toNatClampNeg σ = some σ1 := e1
    have c1 : σ 301 (σ 500 0 k).toNatClampNeg 0 = p.1 := c1
    rw [gd_p (decide_eq_true (show (σ 500 0 k).toNatClampNeg < 60 from hpi)), gd_p (vin_n hk60 (by decide)), gd_p (decide_eq_true (show (σ 500 0 k).toNatClampNeg < 60 from hpi)), e1, bv_s, i10, e2, bv_s, c1, en]
    exact z1
  · unfold f_X8_carryOne
    rw [gd_p (vin_n hk60 (by decide)), cln (by omega), f1, bv_s, f2, bv_s, (q2.2.2 k p hp).1, en, z2, bv_s]
theorem b_twice {σ τ : Mem} {Q : List Pk} {T : List Int32} {k : Nat} (h : RST σ τ) (hq : RQT σ τ Q T) (hk : k < Q.length) : ∃ pl σ' τ', f_X7_bring (nI k) 0 σ = some (pl, σ') ∧ bv (f_X8_takeMessage (nI k) τ) (fun s5 => gd (vin (nI k) 60) (bv (f_X8_come (s5 825 0 (nI k).toNatClampNeg) s5) (fun s8 => some s8))) = some τ' ∧ RUN2 σ τ σ' τ' T := by
  have hq0 := hq
  obtain ⟨q1, q2, q3, q4, q5, q6, q7⟩ := hq
  have hk60 : k < 60 := by have := q1.2.1; omega
  obtain ⟨p, hp⟩ : ∃ p, Q[k]? = some p := ⟨Q[k], List.getElem?_eq_getElem hk⟩
  obtain ⟨⟨n, en, hn1, hn2⟩, hB, hL⟩ := q4 p (List.mem_of_getElem? hp)
  obtain ⟨c1, c2⟩ := q1.2.2.2.2 k p hp
  have hpi := q1.2.2.1 k hk60
  obtain ⟨σ1, e1, b1, F1⟩ := v_copy (j0 := 61) hL (by omega) c2
  obtain ⟨τ1, f1, m1, T1⟩ := v_takeMessage q2 hp
  have h2 : RST σ1 τ1 := h.mv (fun f x => F1.1 f (by omega) (by omega)) (fun f x y => T1 f (by simp; omega))
  have Q2 : RQT σ1 τ1 Q T := hq0.mv (fun f x => F1.1 f (by omega) (by omega)) (fun f j x y => F1.2 f j (by omega)) (fun f x => T1 f (by simp; omega))
  obtain ⟨σ3, τ3, z1, z2, z3, z4, z5, z6⟩ := b_come (p := n) h2 Q2 b1 m1 hB hL hn1 hn2
  refine ⟨nI n, σ3, τ3, ?_, ?_, z3, z4, CLO.tr (fun f x => F1.1 f (by omega) (by omega)) z5, MHI.tr (fun f x => T1 f (by simp; omega)) z6⟩
  · unfold f_X7_bring
    rw [gd_p (vin_n hk60 (by decide)), cln (by omega)]
    have e1 : f_X0_copy 61 (σ 500 0 k).toNatClampNeg σ = some σ1 := e1
    have c1 : σ 301 (σ 500 0 k).toNatClampNeg 0 = p.1 := c1
    rw [gd_p (decide_eq_true (show (σ 500 0 k).toNatClampNeg < 60 from hpi)), gd_p (vin_n hk60 (by decide)), gd_p (decide_eq_true (show (σ 500 0 k).toNatClampNeg < 60 from hpi)), e1, bv_s, i00, c1, en]
    exact z1
  · rw [f1, bv_s, gd_p (vin_n hk60 (by decide)), cln (by omega), T1 825 (by decide), (q2.2.2 k p hp).1, en, z2, bv_s]
theorem b_run {n : Nat} {T : List Int32} (hn : n ≤ 200) : ∀ (t i : Nat) (σ τ : Mem) (Q : List Pk), n - i < t → i ≤ n → RST σ τ → RQT σ τ Q T → τ 800 0 0 = 0 → ∃ v σ' τ', f_X7_run_21 t (nI n) (nI i) σ = some (0, v, σ') ∧ f_X8_run_22 t (nI n) (nI i) τ = some (v, τ') ∧ RUN2 σ τ σ' τ' T := by
  intro t
  induction t with
  | zero => intro i σ τ Q h; omega
  | succ t ih =>
    intro i σ τ Q ht hi h hq h8
    rw [f_X7_run_21.eq_2, f_X8_run_22.eq_2, if_pos h8]
    have Z : ∃ v σ' τ', some ((0 : Int32), nI i, σ) = some (0, v, σ') ∧ some (nI i, τ) = some (v, τ') ∧ RUN2 σ τ σ' τ' T := ⟨_, _, _, rfl, rfl, h, ⟨Q, hq⟩, fun _ _ => rfl, fun _ _ => rfl⟩
    by_cases c1 : n ≤ i
    · rw [if_pos (nI_le c1 (by omega)), if_pos (nI_le c1 (by omega))]
      exact Z
    · rw [if_neg (nI_ge (by omega) (by omega)), if_neg (nI_ge (by omega) (by omega)), hq.1.1, hq.2.1.1]
      have hl := hq.1.2.1
      by_cases c2 : Q.length = 0
      · rw [if_pos (by rw [c2]; decide), if_pos (by rw [c2]; decide)]
        exact Z
      · rw [if_neg (nI_nle (by omega) (by omega)), if_neg (nI_nle (by omega) (by omega))]
        obtain ⟨pl, σ1, τ1, e1, e2, k1, ⟨Q1, k2⟩, k3, k4⟩ := b_carry (k := 0) h hq (by omega)
        have e1 : f_X7_bring 0 1 σ = some (pl, σ1) := e1
        have e2 : f_X8_carryOne 0 τ = some (pl, τ1) := e2
        rw [e1, e2, bn_s, bn_s, vl_d, vl_d, nI_1]
        obtain ⟨v, σ2, τ2, z1, z2, z3, z4, z5, z6⟩ := ih (i + 1) σ1 τ1 Q1 (by omega) (by omega) k1 k2 (by rw [k4 800 (by omega)]; exact h8)
        exact ⟨v, σ2, τ2, z1, z2, z3, z4, k3.tr z5, k4.tr z6⟩
theorem b_tick12 {T : List Int32} : ∀ (t i : Nat) (σ τ : Mem) (Q : List Pk), 12 - i < t → i ≤ 12 → RST σ τ → RQT σ τ Q T → ∃ v σ' τ', f_X7_tick_12 t (nI i) σ = some (v, σ') ∧ f_X8_tick_17 t (nI i) τ = some (v, τ') ∧ RUN2 σ τ σ' τ' T := by
  intro t
  induction t with
  | zero => intro i σ τ Q h; omega
  | succ t ih =>
    intro i σ τ Q ht hi h hq
    rw [f_X7_tick_12.eq_2, f_X8_tick_17.eq_2]
    by_cases c1 : 12 ≤ i
    · rw [if_pos (show (12 : Int32) ≤ nI i from nI_le (a := 12) c1 (by omega)), if_pos (show (12 : Int32) ≤ nI i from nI_le (a := 12) c1 (by omega)), h.1]
      exact ⟨_, _, _, rfl, rfl, h, ⟨Q, hq⟩, fun _ _ => rfl, fun _ _ => rfl⟩
    · have hc : i < 12 := by omega
      rw [if_neg (show ¬ (12 : Int32) ≤ nI i from nI_ge (a := i) (b := 12) hc (by decide)), if_neg (show ¬ (12 : Int32) ≤ nI i from nI_ge (a := i) (b := 12) hc (by decide)), gd_p (v12 hc), cln (by omega)]
      obtain ⟨r, σ1, τ1, e1, e2, o⟩ := b_tick (t := σ 708 0 0) hc (h.2.1 i hc).1 h.2.2.1 h.1 hq.2.1 (h.2.1 i hc).2
      obtain ⟨σ2, Q', e3, k1, k2, k3, k4⟩ := end_client hc h hq o
      rw [e1, bn_s, e3, bv_s, e2, bv_s, vl_d, vl_d, nI_1]
      obtain ⟨v, σ3, τ3, z1, z2, z3, z4, z5, z6⟩ := ih (i + 1) σ2 τ1 Q' (by omega) (by omega) k1 k2
      exact ⟨v, σ3, τ3, z1, z2, z3, z4, k3.tr z5, k4.tr z6⟩
