/-! the law's cases 4 to 12 -/
theorem upL0 (o : Nat → Int64) (x : Int64) : vp_updL o (0 : Int32).toNatClampNeg x 0 = x := if_pos rfl
theorem h_strange {σ τ : Mem} {Q : List Pk} {T : List Int32} (a1 x : Int32) (h : RST σ τ) (hq : RQT σ τ Q T) : ∃ (a : Int32 × Int32) (_ : Unit) (σ' τ' : Mem), f_X7_strange a1 x σ = some (a.1, a.2, σ') ∧ f_X8_strange a1 x τ = some τ' ∧ ((a.1 = 0 ∧ τ' 800 0 0 = 0) ∨ (a.1 = 2 ∧ τ' 800 0 0 = 1)) ∧ REL σ τ σ' τ' := by
  unfold f_X7_strange f_X8_strange f_X8_strange_13
  rcases adr_cases a1 with ⟨n, n1, n2, rfl, e1, e2⟩ | ⟨e1, e2, -⟩
  · rw [e1, e2, bn_s, bn_s, i10, i10, gd_p (vin_n n2 (by decide)), vl_d, vl_d, up_at, if_pos rfl, gd_p (vin_n n2 (by decide)), vl_d, cln (by omega)]
    generalize vp_nar .boolean x = y
    have A : Sm [703] σ (up σ 703 0 n y) := Sm.up (by decide) Sm.rf
    have B : Sm [800, 805] τ (up (up τ 800 0 0 0) 805 0 n y) := Sm.up (by decide) (Sm.up (by decide) Sm.rf)
    refine ⟨(0, 0), (), _, _, rfl, rfl, Or.inl ⟨rfl, by rw [up_fn (by decide), up_at]⟩, ?_, ⟨Q, T, hq.mv (fun f x => A f (by simp; omega)) (fun f j x y => by rw [A f (by simp; omega)]) (fun f x => B f (by simp; omega))⟩, fun f x => A f (by simp; omega), fun f x => B f (by simp; omega)⟩
    obtain ⟨k1, k2, k3, k4, k5, k6, k7, k8⟩ := h
    refine ⟨?_, fun c hc => ?_, k3.mv (fun f x y => A f (by simp; omega)) (fun f x y => B f (by simp; omega)), k4.mv (fun f x y => A f (by simp; omega)) (fun f x y => B f (by simp; omega)), fun m hm => ?_, ?_, k7.mv (fun f x y => A f (by simp; omega)) (fun f x y => B f (by simp; omega)), k8.mv (A _ (by decide)) (B _ (by decide)) (B _ (by decide))⟩
    · rw [A 708 (by decide), B 801 (by decide)]; exact k1
    · unfold cIV
      rw [A 100 (by decide), A 101 (by decide), A 102 (by decide), A 103 (by decide), A 108 (by decide), A 110 (by decide), A 111 (by decide)]
      exact k2 c hc
    · rw [up_rd, up_rd]
      by_cases q : m = n
      · rw [if_pos ⟨rfl, rfl, q⟩, if_pos ⟨rfl, rfl, q⟩]
      · rw [if_neg (fun w => q w.2.2), if_neg (fun w => q w.2.2), up_fn (by decide)]; exact k5 m hm
    · unfold RDN
      rw [A 600 (by decide), B 806 (by decide)]; exact k6
  · rw [e1, e2, bn_s, bn_s, i00, i00, vl_d, up_at, if_neg (by decide)]
    exact ⟨(2, 0), (), _, _, rfl, rfl, Or.inr ⟨rfl, up_at _ _ _ _ _⟩, REL.thr 1 h hq⟩
theorem s_4 {σ : Mem} {o : Nat → Int64} (a1 a2 a3 a4 : Int32) (hI : INV σ) : ∃ r, lc_4 a1 a2 a3 a4 σ o = some r ∧ INV r.1 := by
  obtain ⟨a, -, σ', τ', e1, e2, rv, hI'⟩ := sync (fun (a : Int32 × Int32) (s : Mem) => f_X7_strange a1 (bz a2) σ = some (a.1, a.2, s)) (fun τ (_ : Unit) τ' => f_X8_strange a1 (bz a2) τ = some τ') _ uqT hI (fun τ Q T h hq => h_strange a1 (bz a2) h hq)
  unfold lc_4 f_L_strange f_X8_thrown
  rw [e1, bt_s]
  dsimp only
  refine ⟨(τ', o), ?_, hI'⟩
  rcases rv with ⟨c, t⟩ | ⟨c, t⟩
  · rw [if_pos c, bl_s, e2, bv_s, bn_s, if_pos t]
  · rw [c, if_neg (by decide), if_pos rfl, bl_s, e2, bv_s, bn_s, if_pos t]
theorem h_down {σ τ : Mem} {Q : List Pk} {T : List Int32} (a1 : Int32) (h : RST σ τ) (hq : RQT σ τ Q T) : ∃ (_ : Unit) (_ : Unit) (σ' τ' : Mem), f_X7_down (bz a1) σ = some σ' ∧ f_X8_down (bz a1) τ = some τ' ∧ True ∧ REL σ τ σ' τ' := by
  have core : ∀ x y : Int32, (x = 1 ∧ y = 0) ∨ (x = 0 ∧ y = 1) → REL σ τ (up σ 600 0 0 x) (up (up τ 800 0 0 0) 806 0 0 y) := by
    intro x y hxy
    have A : Sm [600] σ (up σ 600 0 0 x) := Sm.up (by decide) Sm.rf
    have B : Sm [800, 806] τ (up (up τ 800 0 0 0) 806 0 0 y) := Sm.up (by decide) (Sm.up (by decide) Sm.rf)
    refine ⟨?_, ⟨Q, T, hq.mv (fun f x => A f (by simp; omega)) (fun f j x y => by rw [A f (by simp; omega)]) (fun f x => B f (by simp; omega))⟩, fun f x => A f (by simp; omega), fun f x => B f (by simp; omega)⟩
    obtain ⟨k1, k2, k3, k4, k5, k6, k7, k8⟩ := h
    refine ⟨?_, fun c hc => ?_, k3.mv (fun f x y => A f (by simp; omega)) (fun f x y => B f (by simp; omega)), k4.mv (fun f x y => A f (by simp; omega)) (fun f x y => B f (by simp; omega)), fun m hm => ?_, ?_, k7.mv (fun f x y => A f (by simp; omega)) (fun f x y => B f (by simp; omega)), k8.mv (A _ (by decide)) (B _ (by decide)) (B _ (by decide))⟩
    · rw [A 708 (by decide), B 801 (by decide)]; exact k1
    · unfold cIV
      rw [A 100 (by decide), A 101 (by decide), A 102 (by decide), A 103 (by decide), A 108 (by decide), A 110 (by decide), A 111 (by decide)]
      exact k2 c hc
    · rw [A 703 (by decide), B 805 (by decide)]; exact k5 m hm
    · unfold RDN
      rw [up_at, up_at]; exact hxy
  unfold f_X7_down f_X8_down f_X7_down_13 bz
  by_cases q : a1 = 0
  · rw [if_pos q, if_pos rfl, gd_p (by decide), vl_d, vl_d, gd_p (by decide), vl_d]
    exact ⟨(), (), _, _, rfl, rfl, trivial, core 1 0 (Or.inl ⟨rfl, rfl⟩)⟩
  · rw [if_neg q, i10, gd_p (by decide), vl_d, vl_d, gd_p (by decide), vl_d]
    exact ⟨(), (), _, _, rfl, rfl, trivial, core 0 1 (Or.inr ⟨rfl, rfl⟩)⟩
theorem s_5 {σ : Mem} {o : Nat → Int64} (a1 a2 a3 a4 : Int32) (hI : INV σ) : ∃ r, lc_5 a1 a2 a3 a4 σ o = some r ∧ INV r.1 := by
  obtain ⟨-, -, σ', τ', e1, e2, rv, hI'⟩ := sync (fun (_ : Unit) (s : Mem) => f_X7_down (bz a1) σ = some s) (fun τ (_ : Unit) τ' => f_X8_down (bz a1) τ = some τ') (fun _ _ _ => True) uqM hI (fun τ Q T h hq => h_down a1 h hq)
  unfold lc_5
  rw [e1, bv_s, e2, bv_s]
  exact ⟨(τ', o), rfl, hI'⟩
theorem RST.tm {σ τ : Mem} {x : Int32} (h : RST σ τ) : RST (up σ 708 0 0 x) (up (up τ 800 0 0 0) 801 0 0 x) := by
  have A : Sm [708] σ (up σ 708 0 0 x) := Sm.up (by decide) Sm.rf
  have B : Sm [800, 801] τ (up (up τ 800 0 0 0) 801 0 0 x) := Sm.up (by decide) (Sm.up (by decide) Sm.rf)
  obtain ⟨k1, k2, k3, k4, k5, k6, k7, k8⟩ := h
  refine ⟨?_, fun c hc => ?_, k3.mv (fun f x y => A f (by simp; omega)) (fun f x y => B f (by simp; omega)), k4.mv (fun f x y => A f (by simp; omega)) (fun f x y => B f (by simp; omega)), fun m hm => ?_, ?_, k7.mv (fun f x y => A f (by simp; omega)) (fun f x y => B f (by simp; omega)), k8.mv (A _ (by decide)) (B _ (by decide)) (B _ (by decide))⟩
  · rw [up_at, up_at]
  · unfold cIV
    rw [A 100 (by decide), A 101 (by decide), A 102 (by decide), A 103 (by decide), A 108 (by decide), A 110 (by decide), A 111 (by decide)]
    exact k2 c hc
  · rw [A 703 (by decide), B 805 (by decide)]; exact k5 m hm
  · unfold RDN
    rw [A 600 (by decide), B 806 (by decide)]; exact k6
theorem h_tick {σ τ : Mem} {Q : List Pk} {T : List Int32} (h : RST σ τ) (hq : RQT σ τ Q T) : ∃ (a : Int32) (b : Int32) (σ' τ' : Mem), f_X7_tick σ = some (a, σ') ∧ f_X8_tick τ = some (b, τ') ∧ a = b ∧ REL σ τ σ' τ' := by
  unfold f_X7_tick f_X8_tick
  rw [vl_d, vl_d, vl_d, up_fn (f := 800) (f' := 801) (by decide), ← h.1]
  have q1 : RQT (up σ 708 0 0 (σ 708 0 0 + 1)) (up (up τ 800 0 0 0) 801 0 0 (σ 708 0 0 + 1)) Q T := hq.mv (fun f x => up_fn (by omega)) (fun f j x y => by rw [up_fn (by omega)]) (fun f x => by rw [up_fn (by omega), up_fn (by omega)])
  obtain ⟨v, σ', τ', e1, e2, r1, ⟨Q', r2⟩, r3, r4⟩ := b_tick12 5000 0 _ _ Q (by decide) (by decide) (h.tm (x := σ 708 0 0 + 1)) q1
  refine ⟨v, v, σ', τ', e1, e2, rfl, r1, ⟨Q', T, r2⟩, fun f x => (r3 f x).trans (up_fn (by omega)), fun f x => (r4 f (by omega)).trans (by rw [up_fn (by omega), up_fn (by omega)])⟩
theorem s_6 {σ : Mem} {o : Nat → Int64} (a1 a2 a3 a4 : Int32) (hI : INV σ) : ∃ r, lc_6 a1 a2 a3 a4 σ o = some r ∧ INV r.1 := by
  obtain ⟨a, b, σ', τ', e1, e2, rv, hI'⟩ := sync (fun (a : Int32) (s : Mem) => f_X7_tick σ = some (a, s)) (fun τ (b : Int32) τ' => f_X8_tick τ = some (b, τ')) (fun a b _ => a = b) uqN hI (fun τ Q T h hq => h_tick h hq)
  unfold lc_6
  rw [e1, bn_s, e2, bn_s, if_pos rv]
  exact ⟨(τ', o), rfl, hI'⟩
theorem s_7 {σ : Mem} {o : Nat → Int64} (a1 a2 a3 a4 : Int32) (hI : INV σ) : ∃ r, lc_7 a1 a2 a3 a4 σ o = some r ∧ INV r.1 := by
  obtain ⟨a, b, σ', τ', e1, e2, rv, hI'⟩ := sync (fun (a : Int32) (s : Mem) => f_X7_packets σ = some (a, s)) (fun τ (b : Int32) τ' => f_X8_packets τ = some (b, τ')) (fun a b _ => a = b) uqN hI (fun τ Q T h hq => by
    unfold f_X7_packets f_X8_packets
    rw [vl_d, up_fn (f := 800) (f' := 823) (by decide)]
    exact ⟨_, _, _, _, rfl, rfl, hq.1.1.trans hq.2.1.1.symm, REL.thr 0 h hq⟩)
  unfold lc_7
  rw [e1, bn_s, e2, bn_s, if_pos rv]
  exact ⟨(τ', o), rfl, hI'⟩
theorem pkt_cases {σ τ : Mem} {Q : List Pk} {T : List Int32} (hq : RQT σ τ Q T) (x : Int32) : (∃ k, k < Q.length ∧ x = nI k ∧ f_X5_has x σ = some (1, σ) ∧ f_X8_isPacket x τ = some (1, τ)) ∨ (f_X5_has x σ = some (0, σ) ∧ f_X8_isPacket x τ = some (0, τ)) := by
  have hl := hq.1.2.1
  unfold f_X5_has f_X8_isPacket
  rw [hq.1.1, hq.2.1.1]
  rcases pk_ix x (n := Q.length) (by omega) with h | h | ⟨n, hn, rfl⟩
  · right
    rw [if_pos h, if_pos h]
    exact ⟨rfl, rfl⟩
  · right
    rw [if_pos h, if_pos h]
    by_cases q : x < 0
    · rw [if_pos q, if_pos q]; exact ⟨rfl, rfl⟩
    · rw [if_neg q, if_neg q]; exact ⟨rfl, rfl⟩
  · left
    exact ⟨n, hn, rfl, by rw [if_neg (nI_pos (by omega)), if_neg (nI_ge hn (by omega))], by rw [if_neg (nI_pos (by omega)), if_neg (nI_ge hn (by omega))]⟩
theorem h_packet {σ τ : Mem} {Q : List Pk} {T : List Int32} (a1 a2 : Int32) (h : RST σ τ) (hq : RQT σ τ Q T) : ∃ (a : Int32 × Int32) (b : Int32) (σ' τ' : Mem), f_X7_packet a1 a2 σ = some (a.1, a.2, σ') ∧ f_X8_packet a1 a2 τ = some (b, τ') ∧ ((a.1 = 0 ∧ τ' 800 0 0 = 0 ∧ a.2 = b) ∨ (a.1 = 1 ∧ τ' 800 0 0 = 1) ∨ (a.1 = 4 ∧ τ' 800 0 0 = 2)) ∧ REL σ τ σ' τ' := by
  unfold f_X7_packet f_X8_packet
  rcases pkt_cases hq a1 with ⟨k, hk, rfl, e1, e2⟩ | ⟨e1, e2⟩
  · have hk60 : k < 60 := by have := hq.1.2.1; omega
    obtain ⟨p, hp⟩ : ∃ p, Q[k]? = some p := ⟨Q[k], List.getElem?_eq_getElem hk⟩
    obtain ⟨c1, c2⟩ := hq.1.2.2.2.2 k p hp
    have hpi : (σ 500 0 k).toNatClampNeg < 60 := hq.1.2.2.1 k hk60
    have c1 : σ 301 (σ 500 0 k).toNatClampNeg 0 = p.1 := c1
    have c2 : BL σ (σ 500 0 k).toNatClampNeg p.2 := c2
    obtain ⟨m1, m2, m3, m4⟩ := hq.2.1.2.2 k p hp
    rw [e1, e2, bn_s, bn_s, i10, i10, gd_p (vin_n hk60 (by decide)), gd_p (vin_n hk60 (by decide)), cln (by omega), gd_p (decide_eq_true hpi), c2.1, m2]
    have bad : ∃ (a : Int32 × Int32) (b : Int32) (σ' τ' : Mem), f_X7_packet_46 σ = some (a.1, a.2, σ') ∧ f_X8_packet_29 (nI k) a2 τ = some (b, τ') ∧ ((a.1 = 0 ∧ τ' 800 0 0 = 0 ∧ a.2 = b) ∨ (a.1 = 1 ∧ τ' 800 0 0 = 1) ∨ (a.1 = 4 ∧ τ' 800 0 0 = 2)) ∧ REL σ τ σ' τ' := by
      unfold f_X7_packet_46 f_X8_packet_29 f_X8_packet_34
      rw [vl_d, up_at, if_neg (by decide)]
      exact ⟨(4, 0), 0, _, _, rfl, rfl, Or.inr (Or.inr ⟨rfl, up_at _ _ _ _ _⟩), REL.thr 2 h hq⟩
    by_cases q1 : a2 < -2
    · rw [if_pos q1, if_pos q1]; exact bad
    rw [if_neg q1, if_neg q1]
    by_cases q2 : a2 < nI p.2.length
    · rw [if_pos q2, if_pos q2]
      unfold f_X8_packet_34
      rw [vl_d, up_at, if_pos (show (0 : Int32) ≤ 0 by decide), gd_p (vin_n hk60 (by decide)), gd_p (vin_n hk60 (by decide)), cln (by omega), up_fn (f := 800) (f' := 825) (by decide), up_fn (f := 800) (f' := 826) (by decide), up_fn (f := 800) (f' := 827) (by decide), m1, m2]
      by_cases q3 : a2 = -2
      · rw [if_pos q3, if_neg (by rw [q3]; decide), if_pos q3]
        exact ⟨(0, _), _, _, _, rfl, rfl, Or.inl ⟨rfl, up_at _ _ _ _ _, rfl⟩, REL.thr 0 h hq⟩
      · rw [if_neg q3, c1]
        by_cases q4 : a2 = -1
        · rw [if_pos q4, if_pos q4]
          exact ⟨(0, _), _, _, _, rfl, rfl, Or.inl ⟨rfl, up_at _ _ _ _ _, rfl⟩, REL.thr 0 h hq⟩
        · rw [if_neg q4, if_neg q4, if_neg q3]
          rcases pk_ix a2 (n := p.2.length) (by omega) with w | w | ⟨j, hj, rfl⟩
          · exfalso
            have w1 : a2.toInt < 0 := Int32.lt_iff_toInt_lt.mp w
            have w2 : ¬ a2.toInt < -2 := fun z => q1 (Int32.lt_iff_toInt_lt.mpr z)
            rcases (show a2.toInt = -2 ∨ a2.toInt = -1 by omega) with z | z
            · exact q3 (Int32.toInt_inj.mp z)
            · exact q4 (Int32.toInt_inj.mp z)
          · exact absurd q2 (Int32.not_lt.mpr w)
          · rw [gd_p (vin_n (by omega) (by decide)), cln (by omega), c2.2 j hj]
            rw [show (64 : Int32) * nI k + nI j = nI (64 * k + j) from by rw [show (64 : Int32) = nI 64 from rfl, pk_mul, nI_add], gd_p (vin_n (by omega) (by decide)), cln (by omega), m4 j hj]
            exact ⟨(0, _), _, _, _, rfl, rfl, Or.inl ⟨rfl, up_at _ _ _ _ _, rfl⟩, REL.thr 0 h hq⟩
    · rw [if_neg q2, if_neg q2]; exact bad
  · rw [e1, e2, bn_s, bn_s, i00, i00]
    unfold f_X8_packet_34
    rw [vl_d, up_at, if_neg (by decide)]
    exact ⟨(1, 0), 0, _, _, rfl, rfl, Or.inr (Or.inl ⟨rfl, up_at _ _ _ _ _⟩), REL.thr 1 h hq⟩
theorem s_8 {σ : Mem} {o : Nat → Int64} (a1 a2 a3 a4 : Int32) (hI : INV σ) : ∃ r, lc_8 a1 a2 a3 a4 σ o = some r ∧ INV r.1 := by
  obtain ⟨a, b, σ', τ', e1, e2, rv, hI'⟩ := sync (fun (a : Int32 × Int32) (s : Mem) => f_X7_packet a1 a2 σ = some (a.1, a.2, s)) (fun τ (b : Int32) τ' => f_X8_packet a1 a2 τ = some (b, τ')) _ uqT hI (fun τ Q T h hq => h_packet a1 a2 h hq)
  unfold lc_8 f_L_packet f_X8_thrown
  rw [e1, bt_s]
  dsimp only
  rcases rv with ⟨c, t, v⟩ | ⟨c, t⟩ | ⟨c, t⟩
  · rw [if_pos c, bl_s, e2, bn_s, bn_s, if_pos t, if_pos rfl, upL0, v, lg_self, if_pos rfl]
    exact ⟨_, rfl, hI'⟩
  · rw [c, if_neg (by decide), if_pos rfl, bl_s, e2, bn_s, bn_s, if_pos t, if_neg (by decide)]
    exact ⟨_, rfl, hI'⟩
  · rw [c, if_neg (by decide), if_neg (by decide), if_pos rfl, bl_s, e2, bn_s, bn_s, if_pos t, if_neg (by decide)]
    exact ⟨_, rfl, hI'⟩
theorem h_carry {σ τ : Mem} {Q : List Pk} {T : List Int32} (a1 : Int32) (h : RST σ τ) (hq : RQT σ τ Q T) : ∃ (a : Int32 × Int32) (b : Int32) (σ' τ' : Mem), f_X7_carry a1 σ = some (a.1, a.2, σ') ∧ f_X8_carry a1 τ = some (b, τ') ∧ ((a.1 = 0 ∧ τ' 800 0 0 = 0 ∧ a.2 = b) ∨ (a.1 = 1 ∧ τ' 800 0 0 = 1)) ∧ REL σ τ σ' τ' := by
  unfold f_X7_carry f_X8_carry f_X8_carry_14
  rcases pkt_cases hq a1 with ⟨k, hk, rfl, e1, e2⟩ | ⟨e1, e2⟩
  · obtain ⟨pl, σ1, τ1, z1, z2, z3⟩ := b_carry (h.z (x := 0)) (hq.z (x := 0)) hk
    rw [e1, e2, bn_s, bn_s, i10, i10, z1, bn_s, vl_d, up_at, if_pos (show (0 : Int32) ≤ 0 by decide), z2, bn_s]
    exact ⟨(0, pl), pl, _, _, rfl, rfl, Or.inl ⟨rfl, by rw [z3.2.2.2 800 (by omega), up_at], rfl⟩, REL.of z3⟩
  · rw [e1, e2, bn_s, bn_s, i00, i00, vl_d, up_at, if_neg (by decide)]
    exact ⟨(1, 0), 0, _, _, rfl, rfl, Or.inr ⟨rfl, up_at _ _ _ _ _⟩, REL.thr 1 h hq⟩
theorem s_9 {σ : Mem} {o : Nat → Int64} (a1 a2 a3 a4 : Int32) (hI : INV σ) : ∃ r, lc_9 a1 a2 a3 a4 σ o = some r ∧ INV r.1 := by
  obtain ⟨a, b, σ', τ', e1, e2, rv, hI'⟩ := sync (fun (a : Int32 × Int32) (s : Mem) => f_X7_carry a1 σ = some (a.1, a.2, s)) (fun τ (b : Int32) τ' => f_X8_carry a1 τ = some (b, τ')) _ uqT hI (fun τ Q T h hq => h_carry a1 h hq)
  unfold lc_9 f_L_carry f_X8_thrown
  rw [e1, bt_s]
  dsimp only
  rcases rv with ⟨c, t, v⟩ | ⟨c, t⟩
  · rw [if_pos c, bl_s, e2, bn_s, bn_s, if_pos t, if_pos rfl, upL0, v, lg_self, if_pos rfl]
    exact ⟨_, rfl, hI'⟩
  · rw [c, if_neg (by decide), if_pos rfl, bl_s, e2, bn_s, bn_s, if_pos t, if_neg (by decide)]
    exact ⟨_, rfl, hI'⟩
theorem h_twice {σ τ : Mem} {Q : List Pk} {T : List Int32} (a1 : Int32) (h : RST σ τ) (hq : RQT σ τ Q T) : ∃ (a : Int32 × Int32) (_ : Unit) (σ' τ' : Mem), f_X7_twice a1 σ = some (a.1, a.2, σ') ∧ f_X8_twice a1 τ = some τ' ∧ ((a.1 = 0 ∧ τ' 800 0 0 = 0) ∨ (a.1 = 1 ∧ τ' 800 0 0 = 1)) ∧ REL σ τ σ' τ' := by
  unfold f_X7_twice f_X8_twice f_X8_twice_14
  rcases pkt_cases hq a1 with ⟨k, hk, rfl, e1, e2⟩ | ⟨e1, e2⟩
  · obtain ⟨pl, σ1, τ1, z1, z2, z3⟩ := b_twice (h.z (x := 0)) (hq.z (x := 0)) hk
    rw [e1, e2, bn_s, bn_s, i10, i10, z1, bn_s, vl_d, up_at, if_pos rfl, z2]
    exact ⟨(0, 0), (), _, _, rfl, rfl, Or.inl ⟨rfl, by rw [z3.2.2.2 800 (by omega), up_at]⟩, REL.of z3⟩
  · rw [e1, e2, bn_s, bn_s, i00, i00, vl_d, up_at, if_neg (by decide)]
    exact ⟨(1, 0), (), _, _, rfl, rfl, Or.inr ⟨rfl, up_at _ _ _ _ _⟩, REL.thr 1 h hq⟩
theorem s_10 {σ : Mem} {o : Nat → Int64} (a1 a2 a3 a4 : Int32) (hI : INV σ) : ∃ r, lc_10 a1 a2 a3 a4 σ o = some r ∧ INV r.1 := by
  obtain ⟨a, -, σ', τ', e1, e2, rv, hI'⟩ := sync (fun (a : Int32 × Int32) (s : Mem) => f_X7_twice a1 σ = some (a.1, a.2, s)) (fun τ (_ : Unit) τ' => f_X8_twice a1 τ = some τ') _ uqT hI (fun τ Q T h hq => h_twice a1 h hq)
  unfold lc_10 f_L_twice f_X8_thrown
  rw [e1, bt_s]
  dsimp only
  refine ⟨(τ', o), ?_, hI'⟩
  rcases rv with ⟨c, t⟩ | ⟨c, t⟩
  · rw [if_pos c, bl_s, e2, bv_s, bn_s, if_pos t]
  · rw [c, if_neg (by decide), if_pos rfl, bl_s, e2, bv_s, bn_s, if_pos t]
theorem h_drop {σ τ : Mem} {Q : List Pk} {T : List Int32} (a1 : Int32) (h : RST σ τ) (hq : RQT σ τ Q T) : ∃ (a : Int32 × Int32) (_ : Unit) (σ' τ' : Mem), f_X7_drop a1 σ = some (a.1, a.2, σ') ∧ f_X8_drop a1 τ = some τ' ∧ ((a.1 = 0 ∧ τ' 800 0 0 = 0) ∨ (a.1 = 1 ∧ τ' 800 0 0 = 1)) ∧ REL σ τ σ' τ' := by
  unfold f_X7_drop f_X8_drop f_X8_drop_14
  rcases pkt_cases hq a1 with ⟨k, hk, rfl, e1, e2⟩ | ⟨e1, e2⟩
  · obtain ⟨q1, q2, q3, q4, q5, q6, q7⟩ := hq.z (x := 0)
    obtain ⟨σ1, z1, C1, S1⟩ := v_remove q1 hk
    obtain ⟨τ1, z2, M1, T1⟩ := v_mremove q2 hk
    rw [e1, e2, bn_s, bn_s, i10, i10, z1, bv_s, vl_d, up_at, if_pos rfl, z2, bv_s]
    refine ⟨(0, 0), (), _, _, rfl, rfl, Or.inl ⟨rfl, by rw [T1 800 (by decide), up_at]⟩, (h.z (x := 0)).mv (fun f x => S1 f (by simp; omega)) (fun f x y => T1 f (by simp; omega)), ⟨Q.eraseIdx k, T, C1, M1, ?_, fun p hp => q4 p (List.mem_of_mem_eraseIdx hp), q5.mv (by rw [S1 0 (by decide)]) (by rw [S1 1 (by decide)]), q6.mv (T1 _ (by decide)) (T1 _ (by decide)), q7⟩, fun f x => S1 f (by simp; omega), fun f x => by rw [T1 f (by simp; omega), up_fn (by omega)]⟩
    rw [S1 502 (by decide), T1 824 (by decide)]; exact q3
  · rw [e1, e2, bn_s, bn_s, i00, i00, vl_d, up_at, if_neg (by decide)]
    exact ⟨(1, 0), (), _, _, rfl, rfl, Or.inr ⟨rfl, up_at _ _ _ _ _⟩, REL.thr 1 h hq⟩
theorem s_11 {σ : Mem} {o : Nat → Int64} (a1 a2 a3 a4 : Int32) (hI : INV σ) : ∃ r, lc_11 a1 a2 a3 a4 σ o = some r ∧ INV r.1 := by
  obtain ⟨a, -, σ', τ', e1, e2, rv, hI'⟩ := sync (fun (a : Int32 × Int32) (s : Mem) => f_X7_drop a1 σ = some (a.1, a.2, s)) (fun τ (_ : Unit) τ' => f_X8_drop a1 τ = some τ') _ uqT hI (fun τ Q T h hq => h_drop a1 h hq)
  unfold lc_11 f_L_drop f_X8_thrown
  rw [e1, bt_s]
  dsimp only
  refine ⟨(τ', o), ?_, hI'⟩
  rcases rv with ⟨c, t⟩ | ⟨c, t⟩
  · rw [if_pos c, bl_s, e2, bv_s, bn_s, if_pos t]
  · rw [c, if_neg (by decide), if_pos rfl, bl_s, e2, bv_s, bn_s, if_pos t]
theorem h_run {σ τ : Mem} {Q : List Pk} {T : List Int32} (a1 : Int32) (h : RST σ τ) (hq : RQT σ τ Q T) : ∃ (a : Int32 × Int32) (b : Int32) (σ' τ' : Mem), f_X7_run a1 σ = some (a.1, a.2, σ') ∧ f_X8_run a1 τ = some (b, τ') ∧ ((a.1 = 0 ∧ τ' 800 0 0 = 0 ∧ a.2 = b) ∨ (a.1 = 2 ∧ τ' 800 0 0 = 1)) ∧ REL σ τ σ' τ' := by
  have bad : ∃ (a : Int32 × Int32) (b : Int32) (σ' τ' : Mem), f_X7_run_11 σ = some (a.1, a.2, σ') ∧ f_X8_run_12 a1 τ = some (b, τ') ∧ ((a.1 = 0 ∧ τ' 800 0 0 = 0 ∧ a.2 = b) ∨ (a.1 = 2 ∧ τ' 800 0 0 = 1)) ∧ REL σ τ σ' τ' := by
    unfold f_X7_run_11 f_X8_run_12 f_X8_run_17
    rw [vl_d, show (5000 : Nat) = 4999 + 1 from rfl, f_X8_run_22.eq_2, up_at, if_neg (by decide)]
    exact ⟨(2, 0), 0, _, _, rfl, rfl, Or.inr ⟨rfl, up_at _ _ _ _ _⟩, REL.thr 1 h hq⟩
  unfold f_X7_run f_X8_run
  by_cases c1 : a1 < 0
  · rw [if_pos c1, if_pos c1]; exact bad
  rw [if_neg c1, if_neg c1]
  by_cases c2 : a1 ≤ 200
  · rw [if_pos c2, if_pos c2]
    obtain ⟨n, hn, rfl⟩ := nI_of2 (n := 200) (by decide) c1 c2
    unfold f_X8_run_17
    rw [vl_d]
    obtain ⟨v, σ', τ', z1, z2, z3⟩ := b_run hn 5000 0 σ (up τ 800 0 0 0) Q (by omega) (by omega) h.z hq.z (up_at _ _ _ _ _)
    exact ⟨(0, v), v, σ', τ', z1, z2, Or.inl ⟨rfl, by rw [z3.2.2.2 800 (by omega), up_at], rfl⟩, REL.of z3⟩
  · rw [if_neg c2, if_neg c2]; exact bad
theorem s_12 {σ : Mem} {o : Nat → Int64} (a1 a2 a3 a4 : Int32) (hI : INV σ) : ∃ r, lc_12 a1 a2 a3 a4 σ o = some r ∧ INV r.1 := by
  obtain ⟨a, b, σ', τ', e1, e2, rv, hI'⟩ := sync (fun (a : Int32 × Int32) (s : Mem) => f_X7_run a1 σ = some (a.1, a.2, s)) (fun τ (b : Int32) τ' => f_X8_run a1 τ = some (b, τ')) _ uqT hI (fun τ Q T h hq => h_run a1 h hq)
  unfold lc_12 f_L_run f_X8_thrown
  rw [e1, bt_s]
  dsimp only
  rcases rv with ⟨c, t, v⟩ | ⟨c, t⟩
  · rw [if_pos c, bl_s, e2, bn_s, bn_s, if_pos t, if_pos rfl, upL0, v, lg_self, if_pos rfl]
    exact ⟨_, rfl, hI'⟩
  · rw [c, if_neg (by decide), if_pos rfl, bl_s, e2, bn_s, bn_s, if_pos t, if_neg (by decide)]
    exact ⟨_, rfl, hI'⟩
