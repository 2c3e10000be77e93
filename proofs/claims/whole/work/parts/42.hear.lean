/-! a client hears, on both sides -/
theorem adr_cases (x : Int32) : (∃ n, 1 ≤ n ∧ n < 1024 ∧ x = nI n ∧ (∀ σ, f_X7_isAddress x σ = some (1, σ)) ∧ ∀ σ, f_X8_isAddress x σ = some (1, σ)) ∨ ((∀ σ, f_X7_isAddress x σ = some (0, σ)) ∧ (∀ σ, f_X8_isAddress x σ = some (0, σ)) ∧ ∀ n, 1 ≤ n → n < 1024 → ¬ x = nI n) := by
  unfold f_X7_isAddress f_X8_isAddress
  rcases pk_ix x (n := 1024) (by decide) with h | h | ⟨n, hn, rfl⟩
  · right
    have a : x.toInt < 0 := Int32.lt_iff_toInt_lt.mp h
    refine ⟨fun σ => by rw [if_pos (Int32.le_iff_toInt_le.mpr (show x.toInt ≤ 0 by omega))], fun σ => by rw [if_pos (Int32.lt_iff_toInt_lt.mpr (show x.toInt < 1 by omega))], fun n h1 h2 e => ?_⟩
    rw [e, nI_toInt (by omega)] at a
    omega
  · right
    have a : 1024 ≤ x.toInt := Int32.le_iff_toInt_le.mp h
    refine ⟨fun σ => by rw [if_neg (fun q => by have q : x.toInt ≤ 0 := Int32.le_iff_toInt_le.mp q; omega), if_pos (show (1024 : Int32) ≤ x from h)], fun σ => by rw [if_neg (fun q => by have q : x.toInt < 1 := Int32.lt_iff_toInt_lt.mp q; omega), if_pos (show (1023 : Int32) < x from Int32.lt_iff_toInt_lt.mpr (show (1023 : Int) < x.toInt by omega))], fun n h1 h2 e => ?_⟩
    rw [e, nI_toInt (by omega)] at a
    omega
  · by_cases h0 : n = 0
    · right
      subst h0
      exact ⟨fun σ => by rw [if_pos (show nI 0 ≤ 0 by decide)], fun σ => by rw [if_pos (show nI 0 < 1 by decide)], fun n h1 h2 e => by have := (nI_eq (a := 0) (b := n) (by decide) (by omega)).mp e; omega⟩
    · left
      exact ⟨n, by omega, hn, rfl, fun σ => by rw [if_neg (nI_nle (by omega) (by omega)), if_neg (show ¬ (1024 : Int32) ≤ nI n from nI_ge (a := n) (b := 1024) hn (by decide))], fun σ => by rw [if_neg (show ¬ nI n < (1 : Int32) from nI_nlt (a := n) (b := 1) (by omega) (by omega)), if_neg (show ¬ (1023 : Int32) < nI n from nI_nlt (a := 1023) (b := n) (by omega) (by decide))]⟩
theorem k_ack90 (c : Nat) (v : Int32) (σ : Mem) : f_X1_hearAck_90 c 0 v σ = some (-1, up (up (up (up (up σ 101 c 0 3) 103 c 0 (σ 204 0 0)) 104 c 0 (σ 109 c 0 + v)) 105 c 0 (σ 109 c 0 + v / 2)) 106 c 0 (σ 109 c 0 + v - v / 8)) := by
  unfold f_X1_hearAck_90
  simp [vl_d, up_rd]
theorem m_ack136 {c : Nat} (hc : c < 12) (yi v : Int32) (τ : Mem) : f_X8_acknowledged_136 (nI c) yi v τ = some (up (up (up (up (up τ 812 0 c 3) 814 0 c yi) 815 0 c (τ 819 0 c + v)) 816 0 c (τ 819 0 c + v / 2)) 817 0 c (τ 819 0 c + v - v / 8)) := by
  unfold f_X8_acknowledged_136
  simp only [gd_p (v12 hc), vl_d, cln (show c < 2 ^ 31 by omega)]
  simp [up_rd]
theorem b_ack90 {c : Nat} {yi v : Int32} {Q : List Pk} {σ τ : Mem} (hc : c < 12) (h : REQ σ τ) (hQ : MU τ Q) (hi : cIV σ c) (hy : σ 204 0 0 = yi) : ∃ r σ' τ', f_X1_hearAck_90 c 0 v σ = some (r, σ') ∧ f_X8_acknowledged_136 (nI c) yi v τ = some τ' ∧ OPR c r Q σ τ σ' τ' := by
  rw [k_ack90, m_ack136 hc, hy, RQ_at h (f := 109) (g := 819) (by decide) hc]
  refine ⟨_, _, _, rfl, rfl, opr_id (FC.uc (by decide) (by decide) (FC.uc (by decide) (by decide) (FC.uc (by decide) (by decide) (FC.uc (by decide) (by decide) (FC.uc (by decide) (by decide) FC.rf))))) (Sm.up (by decide) (Sm.up (by decide) (Sm.up (by decide) (Sm.up (by decide) (Sm.up (by decide) Sm.rf))))) (REQ.up (by decide) (REQ.up (by decide) (REQ.up (by decide) (REQ.up (by decide) (REQ.up (by decide) h))))) ?_ hQ⟩
  exact cIV_of (m := 3) (s := σ 102 c 0) (a := yi) (tr := σ 108 c 0) (o := σ 110 c 0) (r := σ 111 c 0) ⟨hi.1, fun e => by rcases e with e | e | e <;> exact absurd e (by decide), fun e => absurd e (by decide), fun e => absurd e (by decide)⟩ (by simp [up_rd]) (by simp [up_rd]) (by simp [up_rd]) (by simp [up_rd]) (by simp [up_rd]) (by simp [up_rd])
def MDEC (c : Nat) (yi : Int32) (τ : Mem) : Option Mem := bv (f_X8_say (nI c) 4 0 τ) (fun s9 => bv (f_X8_option 50 yi s9) (fun s11 => bv (f_X8_finish s11) (fun s13 => bv (f_X8_broadcast (nI c) s13) (fun s15 => bv (f_X8_loseAddress (nI c) s15) (fun s17 => gd (vin (nI c) 12) (vl (up s17 812 0 (nI c).toNatClampNeg 7) (fun s19 => some s19)))))))
theorem b_dec {c : Nat} {yi t : Int32} {Q : List Pk} {σ τ : Mem} (hc : c < 12) (hid : σ 100 c 0 = nI c) (h : REQ σ τ) (ht : t = τ 801 0 0) (hQ : MU τ Q) (hi : cIV σ c) (hy : σ 204 0 0 = yi) (hy0 : ¬ yi = 0) : ∃ r σ' τ', f_X1_hearAck_58 c 0 t 1 σ = some (r, σ') ∧ MDEC c yi τ = some τ' ∧ OPR c r Q σ τ σ' τ' := by
  unfold f_X1_hearAck_58 MDEC f_X1_forget f_X8_loseAddress
  simp only [k_prepare, k_place, bn_s, gd_p (v12 hc), vl_d, bv_s, cln (show c < 2 ^ 31 by omega)]
  rw [show PRE c 4 t σ 204 0 0 = yi by rw [PRE_fc.2.2 204 0 (by decide) (by decide)]; exact hy]
  have K := ksd_pre (t := t) (kind := 4) (ci := 0) (wa := yi) (se := 0) hc hid rfl
  obtain ⟨z1, z2, z3⟩ := PRE_z (c := c) (kind := 4) (t := t) (σ := σ)
  rw [up_same z1, up_same (f := 210) (by rw [up_fn (by decide)]; exact z3)] at K
  obtain ⟨s, e, m, S⟩ := m_say (τ := τ) 4 0 hc
  obtain ⟨s1, e1, m1, S1⟩ := v_option 50 yi m hy0 (by rw [encH_len]; decide)
  have l1 := o6_len 50 yi
  have l0 := encH_len 1 0 (τ 818 0 c + 1) 0 0 0 (nI c) 4
  obtain ⟨q, τ1, e3, f3, f2, e4, S4, m4, l4⟩ := m_close (bpl (τ 813 0 c)) m1 (by rw [List.length_append]; omega) (S.tr S1) hQ
  rw [e, bv_s, e1, bv_s, e3, bv_s, m_broadcast hc, f3, e4, bv_s]
  rw [List.append_assoc] at m4
  have B : SBT c (bpl (σ 102 c 0)) Q σ τ _ τ1 := sbt_of hc h ht (bpl_ok hi.1) K (pl2 := bpl (τ 813 0 c)) (ci2 := 0) (wa2 := yi) (se2 := 0) ⟨S4, m4, l4⟩ (by rw [RQ_at h (f := 102) (by decide) hc]) rfl rfl rfl
  obtain ⟨p1, p2, p3, p4, p5, p6, p7⟩ := B
  have x2 : ∀ a b d, up (up (up (up (PRE c 4 t σ) 208 1 0 yi) 103 c 0 a) 104 c 0 b) 101 c 0 d 102 c 0 = σ 102 c 0 := fun a b d => by rw [up_fn (by decide), up_fn (by decide), up_fn (by decide), p2 102 (by decide) (by decide) (by decide)]
  rw [x2]
  refine ⟨_, _, _, rfl, rfl, FC.uc (by decide) (by decide) (FC.uc (by decide) (by decide) (FC.uc (by decide) (by decide) p1)), Sm.up (by decide) (Sm.up (by decide) (Sm.up (by decide) (p3.mono (by decide)))), REQ.up (by decide) (REQ.up (by decide) (REQ.up (by decide) p4)), ?_, Or.inr ⟨p5, ?_, ?_⟩⟩
  · exact cIV_of (m := 7) (s := σ 102 c 0) (a := 0) (tr := σ 108 c 0) (o := σ 110 c 0) (r := σ 111 c 0) ⟨hi.1, fun e => by rcases e with e | e | e <;> exact absurd e (by decide), fun e => absurd e (by decide), fun e => absurd e (by decide)⟩ (by rw [up_at]) (x2 _ _ _) (by rw [up_fn (by decide), up_fn (by decide), up_at]) (by rw [up_fn (by decide), up_fn (by decide), up_fn (by decide), p2 108 (by decide) (by decide) (by decide)]) (by rw [up_fn (by decide), up_fn (by decide), up_fn (by decide), p2 110 (by decide) (by decide) (by decide)]) (by rw [up_fn (by decide), up_fn (by decide), up_fn (by decide), p2 111 (by decide) (by decide) (by decide)])
  · rw [mEnc_lo (σ := up (PRE c 4 t σ) 208 1 0 yi) (fun f hf => by rw [up_fn (by omega), up_fn (by omega), up_fn (by omega)])]
    exact p6.mv (by rw [up_fn (by decide), up_fn (by decide), up_fn (by decide)]) (by rw [up_fn (by decide), up_fn (by decide), up_fn (by decide)]) (by rw [up_fn (by decide), up_fn (by decide), up_fn (by decide)]) (by rw [up_fn (by decide), up_fn (by decide), up_fn (by decide)])
  · rw [up_fn (by decide), up_fn (by decide), up_fn (by decide), p7]
/-- what has been read, on both sides -/
def HMS (σ τ : Mem) (L : List Int32) (s : St4) : Prop := hd7 σ L ∧ hs4 σ 0 = s ∧ ML τ L ∧ ms4 τ = s ∧ 19 ≤ L.length ∧ L.length ≤ 60
def STX (x2 : Int32) (yi : Int32) (τ : Mem) : Prop := (x2 = 0 ∧ ((∀ ρ, f_X8_isAddress yi ρ = some (0, ρ)) ∨ ∃ n, n < 1024 ∧ yi = nI n ∧ (∀ ρ, f_X8_isAddress yi ρ = some (1, ρ)) ∧ τ 805 0 n = 0)) ∨ (x2 = 1 ∧ ∃ n, n < 1024 ∧ yi = nI n ∧ (∀ ρ, f_X8_isAddress yi ρ = some (1, ρ)) ∧ ¬ τ 805 0 n = 0)
theorem m_ack76 {c : Nat} {x2 yi v : Int32} {τ : Mem} (hx : STX x2 yi τ) : f_X8_acknowledged_76 (nI c) yi v 1 τ = if x2 = 0 then f_X8_acknowledged_136 (nI c) yi v τ else MDEC c yi τ := by
  unfold f_X8_acknowledged_76
  rw [if_neg (by decide)]
  rcases hx with ⟨rfl, hx | ⟨n, hn, e, ha, hz⟩⟩ | ⟨rfl, n, hn, e, ha, hz⟩
  · rw [hx, bn_s, if_pos rfl, if_pos rfl]
  · rw [ha, bn_s, if_neg (by decide), e, gd_p (vin_n hn (by decide)), cln (by omega), if_pos hz, if_pos rfl]
  · rw [ha, bn_s, if_neg (by decide), e, gd_p (vin_n hn (by decide)), cln (by omega), if_neg hz, if_neg (by decide)]
    rfl
theorem m_yi {τ : Mem} {L : List Int32} (h : ML τ L) (h1 : 19 ≤ L.length) (h2 : L.length ≤ 60) : f_X8_yiaddr τ = some (fr L 10, τ) := by
  have := v_fourAt (a := 10) h h2 (by omega)
  have : f_X8_fourAt 10 τ = some (fr L 10, τ) := this
  unfold f_X8_yiaddr
  rw [this, bn_s]
theorem m_xid {τ : Mem} {L : List Int32} (h : ML τ L) (h1 : 19 ≤ L.length) (h2 : L.length ≤ 60) : f_X8_xidOf τ = some (fr L 2, τ) := by
  have := v_fourAt (a := 2) h h2 (by omega)
  have : f_X8_fourAt 2 τ = some (fr L 2, τ) := this
  unfold f_X8_xidOf
  rw [this, bn_s]
theorem m_ci {τ : Mem} {L : List Int32} (h : ML τ L) (h1 : 19 ≤ L.length) (h2 : L.length ≤ 60) : f_X8_ciaddr τ = some (fr L 6, τ) := by
  have := v_fourAt (a := 6) h h2 (by omega)
  have : f_X8_fourAt 6 τ = some (fr L 6, τ) := this
  unfold f_X8_ciaddr
  rw [this, bn_s]
theorem m_gi {τ : Mem} {L : List Int32} (h : ML τ L) (h1 : 19 ≤ L.length) (h2 : L.length ≤ 60) : f_X8_giaddr τ = some (fr L 14, τ) := by
  have := v_fourAt (a := 14) h h2 (by omega)
  have : f_X8_fourAt 14 τ = some (fr L 14, τ) := this
  unfold f_X8_giaddr
  rw [this, bn_s]
theorem HMS.kd {σ τ : Mem} {L : List Int32} {s : St4} (h : HMS σ τ L s) : (σ 207 0 0 = s.1 ∧ σ 208 0 0 = s.2.1 ∧ σ 209 0 0 = s.2.2.1 ∧ σ 210 0 0 = s.2.2.2) ∧ (τ 833 0 0 = s.1 ∧ τ 834 0 0 = s.2.1 ∧ τ 835 0 0 = s.2.2.1 ∧ τ 836 0 0 = s.2.2.2) := by
  obtain ⟨-, h1, -, h2, -⟩ := h
  refine ⟨?_, ?_⟩
  · rw [← h1]; exact ⟨rfl, rfl, rfl, rfl⟩
  · rw [← h2]; exact ⟨rfl, rfl, rfl, rfl⟩
theorem b_ack {c : Nat} {t x2 : Int32} {Q : List Pk} {σ τ : Mem} {L : List Int32} {s : St4} (hc : c < 12) (hid : σ 100 c 0 = nI c) (h : REQ σ τ) (ht : t = τ 801 0 0) (hQ : MU τ Q) (hi : cIV σ c) (H : HMS σ τ L s) (hx : STX x2 (fr L 10) τ) : ∃ r σ' τ', f_X1_hearAck c 0 x2 t 1 σ = some (r, σ') ∧ f_X8_acknowledged (nI c) τ = some τ' ∧ OPR c r Q σ τ σ' τ' := by
  obtain ⟨⟨k1, k2, k3, k4⟩, g1, g2, g3, g4⟩ := H.kd
  obtain ⟨⟨d0, d1, d2, d3, d4, d5, d6⟩, h4, hML, hm4, l1, l2⟩ := H
  have N : ∃ r σ' τ', some ((-1 : Int32), σ) = some (r, σ') ∧ some τ = some τ' ∧ OPR c r Q σ τ σ' τ' := ⟨_, _, _, rfl, rfl, opr_id FC.rf Sm.rf h hi hQ⟩
  unfold f_X1_hearAck f_X8_acknowledged
  rw [vl_d, m_yi hML l1 l2, bn_s, k3, g3, d4]
  have hl : (if s.2.2.1 ≤ 10000 then f_X8_acknowledged_25 (nI c) (fr L 10) s.2.2.1 τ else f_X8_acknowledged_25 (nI c) (fr L 10) 10000 τ) = f_X8_acknowledged_25 (nI c) (fr L 10) (if 10000 < s.2.2.1 then 10000 else s.2.2.1) τ := by
    by_cases q : 10000 < s.2.2.1
    · rw [if_pos q, if_neg (Int32.not_le.mpr q)]
    · rw [if_neg q, if_pos (Int32.not_lt.mp q)]
  rw [hl]
  generalize (if 10000 < s.2.2.1 then 10000 else s.2.2.1) = v
  unfold f_X8_acknowledged_25 f_X8_acknowledged_71
  simp only [gd_p (v12 hc), cln (show c < 2 ^ 31 by omega)]
  rw [RQ_at h (f := 109) (g := 819) (by decide) hc, RQ_at h (f := 101) (g := 812) (by decide) hc, ← ht, m_ack76 hx]
  by_cases c1 : fr L 10 = 0
  · rw [if_pos c1, if_pos c1]
    exact N
  rw [if_neg c1, if_neg c1]
  by_cases c2 : v ≤ 0
  · rw [if_pos c2, if_pos c2]
    exact N
  rw [if_neg c2, if_neg c2]
  by_cases c3 : t < σ 109 c 0 + v
  · rw [if_pos c3, if_pos c3]
    have A := b_ack90 (v := v) hc h hQ hi d4
    have D := b_dec hc hid h ht hQ hi d4 c1
    have e0 : f_X8_acknowledged_76 (nI c) (fr L 10) v 0 τ = f_X8_acknowledged_136 (nI c) (fr L 10) v τ := by
      unfold f_X8_acknowledged_76
      rw [if_pos rfl]
    rw [e0]
    by_cases c4 : x2 = 0
    · rw [if_pos c4, if_pos c4]
      by_cases q2 : σ 101 c 0 = 2
      · rw [if_pos q2]; exact A
      · rw [if_neg q2]
        by_cases q6 : σ 101 c 0 = 6
        · rw [if_pos q6]; exact A
        · rw [if_neg q6]; exact A
    · rw [if_neg c4, if_neg c4]
      by_cases q2 : σ 101 c 0 = 2
      · rw [if_pos q2, if_pos q2]; exact D
      · rw [if_neg q2, if_neg q2]
        by_cases q6 : σ 101 c 0 = 6
        · rw [if_pos q6, if_pos q6]; exact D
        · rw [if_neg q6, if_neg q6]; exact A
  · rw [if_neg c3, if_neg c3]
    exact N
theorem b_offer {c : Nat} {t : Int32} {Q : List Pk} {σ τ : Mem} {yi se : Int32} (hc : c < 12) (hid : σ 100 c 0 = nI c) (h : REQ σ τ) (ht : t = τ 801 0 0) (hQ : MU τ Q) (hi : cIV σ c) (hy : ¬ yi = 0) (hse : ¬ se = 0) : ∃ r σ' τ', f_X1_say c t 1 (up (up (up (up σ 110 c 0 yi) 111 c 0 se) 101 c 0 2) 108 c 0 1) = some (r, σ') ∧ f_X8_sayRequest (nI c) (up (up (up (up τ 821 0 c yi) 822 0 c se) 812 0 c 2) 820 0 c 1) = some τ' ∧ OPR c r Q σ τ σ' τ' := by
  rw [up_comm (show 812 ≠ 820 by decide), up_comm (show 101 ≠ 108 by decide)]
  have F0 : FC c σ (up (up (up (up σ 110 c 0 yi) 111 c 0 se) 108 c 0 1) 101 c 0 2) := FC.uc (by decide) (by decide) (FC.uc (by decide) (by decide) (FC.uc (by decide) (by decide) (FC.uc (by decide) (by decide) FC.rf)))
  have S0 : Sm MC12 τ (up (up (up (up τ 821 0 c yi) 822 0 c se) 820 0 c 1) 812 0 c 2) := Sm.up (by decide) (Sm.up (by decide) (Sm.up (by decide) (Sm.up (by decide) Sm.rf)))
  have R0 : REQ (up (up (up (up σ 110 c 0 yi) 111 c 0 se) 108 c 0 1) 101 c 0 2) (up (up (up (up τ 821 0 c yi) 822 0 c se) 820 0 c 1) 812 0 c 2) := REQ.up (by decide) (REQ.up (by decide) (REQ.up (by decide) (REQ.up (by decide) h)))
  have I0 : cIV (up (up (up (up σ 110 c 0 yi) 111 c 0 se) 108 c 0 1) 101 c 0 2) c := cIV_of (m := 2) (s := σ 102 c 0) (a := σ 103 c 0) (tr := 1) (o := yi) (r := se) ⟨hi.1, fun _ => Or.inl rfl, fun _ => ⟨hy, hse⟩, fun e => absurd e (by decide)⟩ (by simp [up_rd]) (by simp [up_rd]) (by simp [up_rd]) (by simp [up_rd]) (by simp [up_rd]) (by simp [up_rd])
  obtain ⟨pl, σ', τ', a1, a2, a3⟩ := b_say_2 (t := t) hc (by rw [F0.1 100 (by omega)]; exact hid) R0 (by rw [S0 801 (by decide)]; exact ht) (hQ.m12 S0) I0 (by simp [up_rd])
  exact ⟨pl, σ', τ', a1, a2, opr_say F0 S0 I0 a3⟩
theorem b_hear120 {c : Nat} {t x2 : Int32} {Q : List Pk} {σ τ : Mem} {L : List Int32} {s : St4} (hc : c < 12) (hid : σ 100 c 0 = nI c) (h : REQ σ τ) (ht : t = τ 801 0 0) (hQ : MU τ Q) (hi : cIV σ c) (H : HMS σ τ L s) (hx : STX x2 (fr L 10) τ) (w : Int32) : ∃ r σ' τ', f_X1_hear_120 c 0 t 1 w σ = some (r, σ') ∧ f_X8_hear_185 (nI c) w τ = some τ' ∧ OPR c r Q σ τ σ' τ' := by
  have BG := b_begin hc hid h ht hQ hi.1
  have N : ∃ r σ' τ', some ((-1 : Int32), σ) = some (r, σ') ∧ some τ = some τ' ∧ OPR c r Q σ τ σ' τ' := ⟨_, _, _, rfl, rfl, opr_id FC.rf Sm.rf h hi hQ⟩
  unfold f_X1_hear_120 f_X8_hear_185
  rw [H.kd.1.1, H.kd.2.1, bn_id, bv_id]
  by_cases q : s.1 = 6
  · rw [if_pos q, if_pos q]
    by_cases qw : w = 0
    · rw [if_pos qw, if_pos qw]; exact N
    · rw [if_neg qw, if_neg qw]; exact BG
  · rw [if_neg q, if_neg q]; exact N
theorem b_hear97 {c : Nat} {t x2 : Int32} {Q : List Pk} {σ τ : Mem} {L : List Int32} {s : St4} (hc : c < 12) (hid : σ 100 c 0 = nI c) (h : REQ σ τ) (ht : t = τ 801 0 0) (hQ : MU τ Q) (hi : cIV σ c) (H : HMS σ τ L s) (hx : STX x2 (fr L 10) τ) (w : Int32) : ∃ r σ' τ', f_X1_hear_97 c 0 x2 t 1 w σ = some (r, σ') ∧ f_X8_hear_165 (nI c) w τ = some τ' ∧ OPR c r Q σ τ σ' τ' := by
  have AK := b_ack hc hid h ht hQ hi H hx
  have t120 := b_hear120 hc hid h ht hQ hi H hx w
  unfold f_X1_hear_97 f_X8_hear_165
  rw [H.kd.1.1, H.kd.2.1, bn_id, bv_id]
  by_cases q : s.1 = 5
  · rw [if_pos q, if_pos q]
    by_cases qw : w = 0
    · rw [if_pos qw, if_pos qw]; exact t120
    · rw [if_neg qw, if_neg qw]; exact AK
  · rw [if_neg q, if_neg q]; exact t120
theorem m_165 {c : Nat} {w : Int32} {τ : Mem} (g : τ 833 0 0 = 2) : f_X8_hear_165 (nI c) w τ = some τ := by
  unfold f_X8_hear_165 f_X8_hear_185
  rw [g, if_neg (by decide), if_neg (by decide)]
theorem k_offer {c : Nat} {t yi se : Int32} {σ : Mem} (d4 : σ 204 0 0 = yi) (k4 : σ 210 0 0 = se) : f_X1_hearOffer c 0 t 1 σ = if yi = 0 then some (-1, σ) else if se = 0 then some (-1, σ) else f_X1_say c t 1 (up (up (up (up σ 110 c 0 yi) 111 c 0 se) 101 c 0 2) 108 c 0 1) := by
  unfold f_X1_hearOffer
  rw [d4, k4, vl_d, vl_d, vl_d, vl_d, bn_id, up_fn (f := 110) (f' := 210) (by decide), k4]
theorem m_hear90 {c : Nat} {w se : Int32} {τ : Mem} {L : List Int32} (hc : c < 12) (hML : ML τ L) (l1 : 19 ≤ L.length) (l2 : L.length ≤ 60) (g1 : τ 833 0 0 = 2) (g4 : τ 836 0 0 = se) (g12 : τ 812 0 c = 1) : f_X8_hear_90 (nI c) w τ = if fr L 10 = 0 then some τ else if se = 0 then some τ else f_X8_sayRequest (nI c) (up (up (up (up τ 821 0 c (fr L 10)) 822 0 c se) 812 0 c 2) 820 0 c 1) := by
  unfold f_X8_hear_90
  rw [if_pos g1, gd_p (v12 hc), cln (by omega), if_pos g12, m_yi hML l1 l2, bn_s, m_165 g1, m_yi hML l1 l2, bn_s, g4, gd_p (v12 hc), vl_d, gd_p (v12 hc), vl_d, gd_p (v12 hc), vl_d, gd_p (v12 hc), vl_d, bv_id, up_fn (f := 821) (f' := 836) (by decide), g4]
theorem b_hear70 {c : Nat} {t x2 : Int32} {Q : List Pk} {σ τ : Mem} {L : List Int32} {s : St4} (hc : c < 12) (hid : σ 100 c 0 = nI c) (h : REQ σ τ) (ht : t = τ 801 0 0) (hQ : MU τ Q) (hi : cIV σ c) (H : HMS σ τ L s) (hx : STX x2 (fr L 10) τ) (w : Int32) : ∃ r σ' τ', f_X1_hear_70 c 0 x2 t 1 w σ = some (r, σ') ∧ f_X8_hear_90 (nI c) w τ = some τ' ∧ OPR c r Q σ τ σ' τ' := by
  have t97 := b_hear97 hc hid h ht hQ hi H hx w
  obtain ⟨⟨k1, k2, k3, k4⟩, g1, g2, g3, g4⟩ := H.kd
  obtain ⟨⟨d0, d1, d2, d3, d4, d5, d6⟩, h4, hML, hm4, l1, l2⟩ := H
  have N : ∃ r σ' τ', some ((-1 : Int32), σ) = some (r, σ') ∧ some τ = some τ' ∧ OPR c r Q σ τ σ' τ' := ⟨_, _, _, rfl, rfl, opr_id FC.rf Sm.rf h hi hQ⟩
  have e12 := RQ_at h (f := 101) (g := 812) (by decide) hc
  unfold f_X1_hear_70
  rw [k1, bn_id]
  by_cases q : s.1 = 2
  · rw [if_pos q]
    by_cases q1 : σ 101 c 0 = 1
    · rw [if_pos q1, k_offer d4 k4, m_hear90 hc hML l1 l2 (g1.trans q) g4 (e12.trans q1)]
      by_cases q3 : fr L 10 = 0
      · rw [if_pos q3, if_pos q3]; exact N
      · rw [if_neg q3, if_neg q3]
        by_cases q4 : s.2.2.2 = 0
        · rw [if_pos q4, if_pos q4]; exact N
        · rw [if_neg q4, if_neg q4]
          exact b_offer hc hid h ht hQ hi q3 q4
    · rw [if_neg q1]
      have e90 : f_X8_hear_90 (nI c) w τ = f_X8_hear_165 (nI c) w τ := by
        unfold f_X8_hear_90
        rw [if_pos (g1.trans q), gd_p (v12 hc), cln (by omega), if_neg (by rw [e12]; exact q1)]
      rw [e90]; exact t97
  · rw [if_neg q]
    have e90 : f_X8_hear_90 (nI c) w τ = f_X8_hear_165 (nI c) w τ := by
      unfold f_X8_hear_90
      rw [if_neg (by rw [g1]; exact q)]
    rw [e90]; exact t97
theorem k_hear0 {c : Nat} {t x2 : Int32} {σ : Mem} (m0 : σ 101 c 0 = 0) : f_X1_hear_70 c 0 x2 t 1 0 σ = some (-1, σ) := by
  unfold f_X1_hear_70 f_X1_hear_97 f_X1_hear_120
  rw [m0, if_neg (show ¬ (0 : Int32) = 1 by decide), if_pos (show (0 : Int32) = 0 from rfl), if_pos (show (0 : Int32) = 0 from rfl), ite_self, ite_self, ite_self]
theorem b_hear {c : Nat} {t x2 : Int32} {Q : List Pk} {σ τ : Mem} {L : List Int32} {s : St4} (hc : c < 12) (hid : σ 100 c 0 = nI c) (h : REQ σ τ) (ht : t = τ 801 0 0) (hQ : MU τ Q) (hi : cIV σ c) (H : HMS σ τ L s) (hx : STX x2 (fr L 10) τ) : ∃ r σ' τ', f_X1_hear c 0 x2 t 1 σ = some (r, σ') ∧ f_X8_hear (nI c) τ = some τ' ∧ OPR c r Q σ τ σ' τ' := by
  have main := b_hear70 hc hid h ht hQ hi H hx
  obtain ⟨⟨d0, d1, d2, d3, d4, d5, d6⟩, h4, hML, hm4, l1, l2⟩ := H
  have N : ∃ r σ' τ', some ((-1 : Int32), σ) = some (r, σ') ∧ some τ = some τ' ∧ OPR c r Q σ τ σ' τ' := ⟨_, _, _, rfl, rfl, opr_id FC.rf Sm.rf h hi hQ⟩
  have e0 : τ 829 0 (0 : Int32).toNatClampNeg = L.getD 0 0 := hML.2 0 (by omega)
  have e18 : τ 829 0 (18 : Int32).toNatClampNeg = L.getD 18 0 := hML.2 18 (by omega)
  have X := m_xid hML l1 l2
  unfold f_X1_hear f_X8_hear f_X1_hear_65 f_X8_hear_85
  simp only [gd_p (v12 hc), gd_p (show vin (0 : Int32) 64 = true by decide), gd_p (show vin (18 : Int32) 64 = true by decide), X, bn_s]
  rw [e0, e18, d0, d6, d2, hid, cln (by omega), RQ_at h (f := 101) (g := 812) (by decide) hc, RQ_at h (f := 107) (g := 818) (by decide) hc]
  by_cases c1 : L.getD 0 0 = 2
  · rw [if_pos c1, if_pos c1]
    by_cases c2 : L.getD 18 0 = nI c
    · rw [if_pos c2, if_pos c2]
      by_cases c3 : fr L 2 = σ 107 c 0
      · rw [if_pos c3, if_pos c3]
        by_cases m0 : σ 101 c 0 = 0
        · rw [if_pos m0, if_neg (show ¬ σ 101 c 0 = 2 by rw [m0]; decide), if_neg (show ¬ σ 101 c 0 = 4 by rw [m0]; decide), if_neg (show ¬ σ 101 c 0 = 5 by rw [m0]; decide), if_neg (show ¬ σ 101 c 0 = 6 by rw [m0]; decide), k_hear0 m0]
          exact N
        · rw [if_neg m0]
          by_cases m2 : σ 101 c 0 = 2
          · rw [if_pos m2, if_pos m2]; exact main 1
          · rw [if_neg m2, if_neg m2]
            by_cases m4 : σ 101 c 0 = 4
            · rw [if_pos m4, if_pos m4]; exact main 1
            · rw [if_neg m4, if_neg m4]
              by_cases m5 : σ 101 c 0 = 5
              · rw [if_pos m5, if_pos m5]; exact main 1
              · rw [if_neg m5, if_neg m5]
                by_cases m6 : σ 101 c 0 = 6
                · rw [if_pos m6, if_pos m6]; exact main 1
                · rw [if_neg m6, if_neg m6]; exact main 0
      · rw [if_neg c3, if_neg c3, ite_self]; exact N
    · rw [if_neg c2, if_neg c2, ite_self]; exact N
  · rw [if_neg c1, if_neg c1, ite_self]; exact N
