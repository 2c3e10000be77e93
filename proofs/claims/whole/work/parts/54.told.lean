/-! told and inject, on both sides -/
def prt (L : List Int32) (s : St4) : Nat → Int32
  | 0 => L.getD 0 0
  | 1 => L.getD 1 0
  | 2 => fr L 2
  | 3 => fr L 6
  | 4 => fr L 10
  | 5 => fr L 14
  | 6 => L.getD 18 0
  | 7 => s.1
  | 8 => s.2.1
  | 9 => s.2.2.1
  | _ => s.2.2.2
theorem hs4.kd {σ : Mem} {s : St4} (h : hs4 σ 0 = s) : σ 207 0 0 = s.1 ∧ σ 208 0 0 = s.2.1 ∧ σ 209 0 0 = s.2.2.1 ∧ σ 210 0 0 = s.2.2.2 := by
  rw [← h]; exact ⟨rfl, rfl, rfl, rfl⟩
theorem ms4.kd {τ : Mem} {s : St4} (h : ms4 τ = s) : τ 833 0 0 = s.1 ∧ τ 834 0 0 = s.2.1 ∧ τ 835 0 0 = s.2.2.1 ∧ τ 836 0 0 = s.2.2.2 := by
  rw [← h]; exact ⟨rfl, rfl, rfl, rfl⟩
theorem k_part {σ : Mem} {L : List Int32} {s : St4} {n : Nat} (hn : n ≤ 10) (h7 : hd7 σ L) (h4 : hs4 σ 0 = s) : f_X2_part 0 (nI n) σ = some (prt L s n, σ) := by
  obtain ⟨k1, k2, k3, k4⟩ := hs4.kd h4
  obtain ⟨d0, d1, d2, d3, d4, d5, d6⟩ := h7
  unfold f_X2_part
  rcases (show n = 0 ∨ n = 1 ∨ n = 2 ∨ n = 3 ∨ n = 4 ∨ n = 5 ∨ n = 6 ∨ n = 7 ∨ n = 8 ∨ n = 9 ∨ n = 10 by omega) with rfl | rfl | rfl | rfl | rfl | rfl | rfl | rfl | rfl | rfl | rfl
  · rw [if_pos (show nI 0 = 0 from rfl), d0]; rfl
  · rw [if_neg (show ¬ nI 1 = 0 by decide), if_pos (show nI 1 = 1 from rfl), d1]; rfl
  · rw [if_neg (show ¬ nI 2 = 0 by decide), if_neg (show ¬ nI 2 = 1 by decide), if_pos (show nI 2 = 2 from rfl), d2]; rfl
  · rw [if_neg (show ¬ nI 3 = 0 by decide), if_neg (show ¬ nI 3 = 1 by decide), if_neg (show ¬ nI 3 = 2 by decide), if_pos (show nI 3 = 3 from rfl), d3]; rfl
  · rw [if_neg (show ¬ nI 4 = 0 by decide), if_neg (show ¬ nI 4 = 1 by decide), if_neg (show ¬ nI 4 = 2 by decide), if_neg (show ¬ nI 4 = 3 by decide), if_pos (show nI 4 = 4 from rfl), d4]; rfl
  · rw [if_neg (show ¬ nI 5 = 0 by decide), if_neg (show ¬ nI 5 = 1 by decide), if_neg (show ¬ nI 5 = 2 by decide), if_neg (show ¬ nI 5 = 3 by decide), if_neg (show ¬ nI 5 = 4 by decide), if_pos (show nI 5 = 5 from rfl), d5]; rfl
  · rw [if_neg (show ¬ nI 6 = 0 by decide), if_neg (show ¬ nI 6 = 1 by decide), if_neg (show ¬ nI 6 = 2 by decide), if_neg (show ¬ nI 6 = 3 by decide), if_neg (show ¬ nI 6 = 4 by decide), if_neg (show ¬ nI 6 = 5 by decide), if_pos (show nI 6 = 6 from rfl), d6]; rfl
  · rw [if_neg (show ¬ nI 7 = 0 by decide), if_neg (show ¬ nI 7 = 1 by decide), if_neg (show ¬ nI 7 = 2 by decide), if_neg (show ¬ nI 7 = 3 by decide), if_neg (show ¬ nI 7 = 4 by decide), if_neg (show ¬ nI 7 = 5 by decide), if_neg (show ¬ nI 7 = 6 by decide), if_pos (show nI 7 = 7 from rfl), k1]; rfl
  · rw [if_neg (show ¬ nI 8 = 0 by decide), if_neg (show ¬ nI 8 = 1 by decide), if_neg (show ¬ nI 8 = 2 by decide), if_neg (show ¬ nI 8 = 3 by decide), if_neg (show ¬ nI 8 = 4 by decide), if_neg (show ¬ nI 8 = 5 by decide), if_neg (show ¬ nI 8 = 6 by decide), if_neg (show ¬ nI 8 = 7 by decide), if_pos (show nI 8 = 8 from rfl), k2]; rfl
  · rw [if_neg (show ¬ nI 9 = 0 by decide), if_neg (show ¬ nI 9 = 1 by decide), if_neg (show ¬ nI 9 = 2 by decide), if_neg (show ¬ nI 9 = 3 by decide), if_neg (show ¬ nI 9 = 4 by decide), if_neg (show ¬ nI 9 = 5 by decide), if_neg (show ¬ nI 9 = 6 by decide), if_neg (show ¬ nI 9 = 7 by decide), if_neg (show ¬ nI 9 = 8 by decide), if_pos (show nI 9 = 9 from rfl), k3]; rfl
  · rw [if_neg (show ¬ nI 10 = 0 by decide), if_neg (show ¬ nI 10 = 1 by decide), if_neg (show ¬ nI 10 = 2 by decide), if_neg (show ¬ nI 10 = 3 by decide), if_neg (show ¬ nI 10 = 4 by decide), if_neg (show ¬ nI 10 = 5 by decide), if_neg (show ¬ nI 10 = 6 by decide), if_neg (show ¬ nI 10 = 7 by decide), if_neg (show ¬ nI 10 = 8 by decide), if_neg (show ¬ nI 10 = 9 by decide), k4]; rfl
theorem m_told45 {τ : Mem} {L : List Int32} {s : St4} {n : Nat} (hn : n ≤ 10) (hm : ML τ L) (h4 : ms4 τ = s) (l1 : 19 ≤ L.length) (l2 : L.length ≤ 60) : f_X8_told_45 (nI n) 0 τ = some (prt L s n, up τ 800 0 0 0) := by
  obtain ⟨k1, k2, k3, k4⟩ := ms4.kd h4
  have hz : ML (up τ 800 0 0 0) L := hm.mv (up_fn (by decide)) (up_fn (by decide))
  have z1 : up τ 800 0 0 0 833 0 0 = s.1 := by rw [up_fn (by decide)]; exact k1
  have z2 : up τ 800 0 0 0 834 0 0 = s.2.1 := by rw [up_fn (by decide)]; exact k2
  have z3 : up τ 800 0 0 0 835 0 0 = s.2.2.1 := by rw [up_fn (by decide)]; exact k3
  have z4 : up τ 800 0 0 0 836 0 0 = s.2.2.2 := by rw [up_fn (by decide)]; exact k4
  have e0 : up τ 800 0 0 0 829 0 (nI 0).toNatClampNeg = L.getD 0 0 := hz.2 0 (by omega)
  have e1 : up τ 800 0 0 0 829 0 (nI 1).toNatClampNeg = L.getD 1 0 := hz.2 1 (by omega)
  have e18 : up τ 800 0 0 0 829 0 (18 : Int32).toNatClampNeg = L.getD 18 0 := hz.2 18 (by omega)
  unfold f_X8_told_45
  rw [vl_d, up_at, if_pos (show (0 : Int32) ≤ 0 by decide)]
  rcases (show n = 0 ∨ n = 1 ∨ n = 2 ∨ n = 3 ∨ n = 4 ∨ n = 5 ∨ n = 6 ∨ n = 7 ∨ n = 8 ∨ n = 9 ∨ n = 10 by omega) with rfl | rfl | rfl | rfl | rfl | rfl | rfl | rfl | rfl | rfl | rfl
  · rw [if_neg (show ¬ (2 : Int32) ≤ nI 0 by decide), gd_p (by decide), e0]; rfl
  · rw [if_neg (show ¬ (2 : Int32) ≤ nI 1 by decide), gd_p (by decide), e1]; rfl
  · rw [if_pos (show (2 : Int32) ≤ nI 2 by decide), if_neg (show ¬ (6 : Int32) ≤ nI 2 by decide), if_pos (show nI 2 = 2 from rfl), m_xid hz l1 l2, bn_s]; rfl
  · rw [if_pos (show (2 : Int32) ≤ nI 3 by decide), if_neg (show ¬ (6 : Int32) ≤ nI 3 by decide), if_neg (show ¬ nI 3 = 2 by decide), if_pos (show nI 3 = 3 from rfl), m_ci hz l1 l2, bn_s]; rfl
  · rw [if_pos (show (2 : Int32) ≤ nI 4 by decide), if_neg (show ¬ (6 : Int32) ≤ nI 4 by decide), if_neg (show ¬ nI 4 = 2 by decide), if_neg (show ¬ nI 4 = 3 by decide), if_pos (show nI 4 = 4 from rfl), m_yi hz l1 l2, bn_s]; rfl
  · rw [if_pos (show (2 : Int32) ≤ nI 5 by decide), if_neg (show ¬ (6 : Int32) ≤ nI 5 by decide), if_neg (show ¬ nI 5 = 2 by decide), if_neg (show ¬ nI 5 = 3 by decide), if_neg (show ¬ nI 5 = 4 by decide), m_gi hz l1 l2, bn_s]; rfl
  · rw [if_pos (show (2 : Int32) ≤ nI 6 by decide), if_pos (show (6 : Int32) ≤ nI 6 by decide), if_pos (show nI 6 = 6 from rfl), gd_p (by decide), e18]; rfl
  · rw [if_pos (show (2 : Int32) ≤ nI 7 by decide), if_pos (show (6 : Int32) ≤ nI 7 by decide), if_neg (show ¬ nI 7 = 6 by decide), if_pos (show nI 7 = 7 from rfl), z1]; rfl
  · rw [if_pos (show (2 : Int32) ≤ nI 8 by decide), if_pos (show (6 : Int32) ≤ nI 8 by decide), if_neg (show ¬ nI 8 = 6 by decide), if_neg (show ¬ nI 8 = 7 by decide), if_pos (show nI 8 = 8 from rfl), z2]; rfl
  · rw [if_pos (show (2 : Int32) ≤ nI 9 by decide), if_pos (show (6 : Int32) ≤ nI 9 by decide), if_neg (show ¬ nI 9 = 6 by decide), if_neg (show ¬ nI 9 = 7 by decide), if_neg (show ¬ nI 9 = 8 by decide), if_pos (show nI 9 = 9 from rfl), z3]; rfl
  · rw [if_pos (show (2 : Int32) ≤ nI 10 by decide), if_pos (show (6 : Int32) ≤ nI 10 by decide), if_neg (show ¬ nI 10 = 6 by decide), if_neg (show ¬ nI 10 = 7 by decide), if_neg (show ¬ nI 10 = 8 by decide), if_neg (show ¬ nI 10 = 9 by decide), z4]; rfl
theorem h_told {σ τ : Mem} {Q : List Pk} {T : List Int32} (a1 : Int32) (h : RST σ τ) (hq : RQT σ τ Q T) : ∃ (a : Int32 × Int32) (b : Int32) (σ' τ' : Mem), f_X7_told a1 σ = some (a.1, a.2, σ') ∧ f_X8_told a1 τ = some (b, τ') ∧ ((a.1 = 0 ∧ τ' 800 0 0 = 0 ∧ a.2 = b) ∨ (a.1 = 4 ∧ τ' 800 0 0 = 1) ∨ (a.1 = 2 ∧ τ' 800 0 0 = 2)) ∧ REL σ τ σ' τ' := by
  have hq0 := hq
  obtain ⟨q1, q2, q3, q4, q5, q6, q7⟩ := hq
  have hL := q6.2.1
  obtain ⟨τ1, e1, m1, T1⟩ := v_takeTape q6
  obtain ⟨τ2, e2, T2, n0, n1⟩ := v_look m1 hL q7
  have TT : ∀ f, f ≠ 828 → f ≠ 829 → (f < 832 ∨ 836 < f) → τ2 f = τ f := fun f x y z => (T2 f (by simp; omega)).trans (T1 f (by simp; omega))
  have h2 : RST σ τ2 := h.mv (fun _ _ => rfl) (fun f x y => TT f (by omega) (by omega) (by omega))
  have hq2 : RQT σ τ2 Q T := hq0.mv (fun _ _ => rfl) (fun _ _ _ _ => rfl) (fun f x => TT f (by omega) (by omega) (by omega))
  have RT : ∀ {σ' τ'}, REL σ τ2 σ' τ' → REL σ τ σ' τ' := fun r => ⟨r.1, r.2.1, r.2.2.1, fun f x => (r.2.2.2 f x).trans (TT f (by omega) (by omega) (by omega))⟩
  have bad : ∃ (a : Int32 × Int32) (b : Int32) (σ' τ' : Mem), f_X7_told_10 σ = some (a.1, a.2, σ') ∧ f_X8_told_14 a1 τ = some (b, τ') ∧ ((a.1 = 0 ∧ τ' 800 0 0 = 0 ∧ a.2 = b) ∨ (a.1 = 4 ∧ τ' 800 0 0 = 1) ∨ (a.1 = 2 ∧ τ' 800 0 0 = 2)) ∧ REL σ τ σ' τ' := by
    unfold f_X7_told_10 f_X8_told_14 f_X8_told_15 f_X8_told_45
    rw [e1, bv_s, e2, bv_s, i00, vl_d, up_at, if_neg (by decide)]
    exact ⟨(4, 0), 0, _, _, rfl, rfl, Or.inr (Or.inl ⟨rfl, up_at _ _ _ _ _⟩), RT (REL.thr 1 h2 hq2)⟩
  unfold f_X7_told f_X8_told
  by_cases c1 : a1 < 0
  · rw [if_pos c1, if_pos c1]; exact bad
  rw [if_neg c1, if_neg c1]
  by_cases c2 : a1 ≤ 10
  · rw [if_pos c2, if_neg (Int32.not_lt.mpr c2)]
    obtain ⟨n, hn, rfl⟩ := nI_of2 (n := 10) (by decide) c1 c2
    obtain ⟨r, σ1, f1, F1, r0, r1⟩ := v_read q5 hL q7
    have A : ∀ f, (f < 200 ∨ 210 < f) → σ1 f = σ f := fun f x => F1.1 f (by simp; omega)
    have RS : ∀ k : Int32, REL σ τ σ1 (up τ2 800 0 0 k) := fun k => ⟨h2.z.mv (fun f x => A f (by omega)) (fun _ _ _ => rfl), ⟨Q, T, hq2.z.mv (fun f x => A f (by omega)) (fun f j x y => by rw [A f (by omega)]) (fun _ _ => rfl)⟩, fun f x => A f (by omega), fun f x => by rw [up_fn (by omega), TT f (by omega) (by omega) (by omega)]⟩
    unfold f_X8_told_15
    rw [f1, bn_s, e1, bv_s, e2, bv_s, i10]
    cases hP : PM T with
    | none =>
      rw [if_pos (r0 hP), if_neg (show ¬ τ2 832 0 0 = 0 by rw [n0 hP]; decide)]
      unfold f_X8_told_45
      rw [vl_d, up_at, if_neg (by decide)]
      exact ⟨(2, 0), 0, _, _, rfl, rfl, Or.inr (Or.inr ⟨rfl, up_at _ _ _ _ _⟩), RS 2⟩
    | some s4 =>
      obtain ⟨x1, x2, x3⟩ := r1 s4 hP
      obtain ⟨y1, y2⟩ := n1 s4 hP
      rw [x1, i10, if_pos y1, k_part hn x2 x3, bn_s, m_told45 hn (m1.mv (T2 _ (by decide)) (T2 _ (by decide))) y2 (PM_len hP) hL]
      exact ⟨(0, _), _, _, _, rfl, rfl, Or.inl ⟨rfl, up_at _ _ _ _ _, rfl⟩, RS 0⟩
  · rw [if_neg c2, if_pos (Int32.not_le.mp c2)]; exact bad
theorem s_14 {σ : Mem} {o : Nat → Int64} (a1 a2 a3 a4 : Int32) (hI : INV σ) : ∃ r, lc_14 a1 a2 a3 a4 σ o = some r ∧ INV r.1 := by
  obtain ⟨a, b, σ', τ', e1, e2, rv, hI'⟩ := sync (fun (a : Int32 × Int32) (s : Mem) => f_X7_told a1 σ = some (a.1, a.2, s)) (fun τ (b : Int32) τ' => f_X8_told a1 τ = some (b, τ')) _ uqT hI (fun τ Q T h hq => h_told a1 h hq)
  unfold lc_14 f_L_told f_X8_thrown
  rw [e1, bt_s]
  dsimp only
  rcases rv with ⟨c, t, v⟩ | ⟨c, t⟩ | ⟨c, t⟩
  · rw [if_pos c, bl_s, e2, bn_s, bn_s, if_pos t, if_pos rfl, upL0, v, lg_self, if_pos rfl]
    exact ⟨_, rfl, hI'⟩
  · rw [c, if_neg (by decide), if_pos rfl, bl_s, e2, bn_s, bn_s, if_pos t, if_neg (by decide)]
    exact ⟨_, rfl, hI'⟩
  · rw [c, if_neg (by decide), if_neg (by decide), if_pos rfl, bl_s, e2, bn_s, bn_s, if_pos t, if_neg (by decide)]
    exact ⟨_, rfl, hI'⟩
theorem plc_cases (x : Int32) : (PLC x ∧ (∀ ρ, f_X7_isPlace x ρ = some (1, ρ)) ∧ ∀ ρ, f_X8_isPlace x ρ = some (1, ρ)) ∨ ((∀ ρ, f_X7_isPlace x ρ = some (0, ρ)) ∧ ∀ ρ, f_X8_isPlace x ρ = some (0, ρ)) := by
  unfold f_X7_isPlace f_X8_isPlace f_X8_isPlace_19
  rcases pk_ix x (n := 17) (by decide) with h | h | ⟨n, hn, rfl⟩
  · right
    have a : x.toInt < 0 := Int32.lt_iff_toInt_lt.mp h
    refine ⟨fun ρ => by rw [if_pos h], fun ρ => ?_⟩
    unfold f_X8_isClient
    rw [if_pos h, bn_s, i00, if_pos (Int32.lt_iff_toInt_lt.mpr (show x.toInt < (13 : Int32).toInt from (by show x.toInt < 13; omega)))]
  · right
    have a : 17 ≤ x.toInt := Int32.le_iff_toInt_le.mp h
    have h0 : ¬ x < 0 := fun q => by
      have b : x.toInt < 0 := Int32.lt_iff_toInt_lt.mp q
      omega
    have h13 : ¬ x < 13 := fun q => by
      have b : x.toInt < 13 := Int32.lt_iff_toInt_lt.mp q
      omega
    have h16 : (16 : Int32) < x := Int32.lt_iff_toInt_lt.mpr (by show (16 : Int) < x.toInt; omega)
    have h12 : (12 : Int32) ≤ x := Int32.le_iff_toInt_le.mpr (by show (12 : Int) ≤ x.toInt; omega)
    refine ⟨fun ρ => by rw [if_neg h0, if_pos h16], fun ρ => ?_⟩
    unfold f_X8_isClient
    rw [if_neg h0, if_pos h12, bn_s, i00, if_neg h13, if_pos h16]
  · have h0 : ¬ nI n < 0 := nI_pos (by omega)
    have h16 : ¬ (16 : Int32) < nI n := nI_nlt (a := 16) (b := n) (by omega) (by decide)
    by_cases q : n = 12
    · right
      subst q
      refine ⟨fun ρ => by rw [if_neg h0, if_neg h16, if_pos (show nI 12 = 12 from rfl)], fun ρ => ?_⟩
      unfold f_X8_isClient
      rw [if_neg h0, if_pos (show (12 : Int32) ≤ nI 12 by decide), bn_s, i00, if_pos (show nI 12 < 13 by decide)]
    · left
      refine ⟨⟨n, rfl, by omega, q⟩, fun ρ => by rw [if_neg h0, if_neg h16, if_neg (show ¬ nI n = 12 from fun w => q ((nI_eq (b := 12) (by omega) (by decide)).mp w))], fun ρ => ?_⟩
      unfold f_X8_isClient
      rw [if_neg h0]
      by_cases q2 : n < 12
      · rw [if_neg (show ¬ (12 : Int32) ≤ nI n from nI_ge (a := n) (b := 12) q2 (by decide)), bn_s, i10]
      · rw [if_pos (show (12 : Int32) ≤ nI n from nI_le (a := 12) (by omega) (by omega)), bn_s, i00, if_neg (show ¬ nI n < 13 from nI_nlt (b := 13) (by omega) (by omega)), if_neg h16]
theorem h_inject {σ τ : Mem} {Q : List Pk} {T : List Int32} (a1 : Int32) (h : RST σ τ) (hq : RQT σ τ Q T) : ∃ (a : Int32 × Int32) (_ : Unit) (σ' τ' : Mem), f_X7_inject a1 σ = some (a.1, a.2, σ') ∧ f_X8_inject a1 τ = some τ' ∧ ((a.1 = 0 ∧ τ' 800 0 0 = 0) ∨ (a.1 = 2 ∧ τ' 800 0 0 = 1)) ∧ REL σ τ σ' τ' := by
  have bad : ∃ (a : Int32 × Int32) (_ : Unit) (σ' τ' : Mem), f_X7_inject_17 σ = some (a.1, a.2, σ') ∧ f_X8_inject_15 a1 τ = some τ' ∧ ((a.1 = 0 ∧ τ' 800 0 0 = 0) ∨ (a.1 = 2 ∧ τ' 800 0 0 = 1)) ∧ REL σ τ σ' τ' := by
    unfold f_X7_inject_17 f_X8_inject_15 f_X8_inject_20
    rw [vl_d, up_at, if_neg (by decide)]
    exact ⟨(2, 0), (), _, _, rfl, rfl, Or.inr ⟨rfl, up_at _ _ _ _ _⟩, REL.thr 1 h hq⟩
  unfold f_X7_inject f_X8_inject
  rcases plc_cases a1 with ⟨hp, e1, e2⟩ | ⟨e1, e2⟩
  · rw [e1, e2, bn_s, bn_s, i10, i10, hq.2.2.2.2.1.1, hq.2.2.2.2.2.1.1]
    by_cases c : nI T.length = 0
    · rw [if_pos c, if_pos c]; exact bad
    · rw [if_neg c, if_neg c]
      obtain ⟨q1, q2, q3, q4, q5, q6, q7⟩ := hq.z (x := 0)
      have hL := q6.2.1
      obtain ⟨σ1, z1, z2, z3, z4⟩ := v_postBytes (place := a1) q1 (Nat.le_refl 60) q5 hL
      obtain ⟨τ1, y1, y2, y3⟩ := v_takeTape q6
      have M1 : MU (up τ1 830 0 0 0) Q := q2.mv (by rw [up_fn (by decide), y3 _ (by decide)]) (by rw [up_fn (by decide), y3 _ (by decide)]) (by rw [up_fn (by decide), y3 _ (by decide)]) (by rw [up_fn (by decide), y3 _ (by decide)])
      obtain ⟨τ2, w1, w2, w3, w4⟩ := v_send a1 M1 (y2.mv (up_fn (by decide)) (up_fn (by decide))) hL
      unfold f_X8_inject_20
      rw [z1, bv_s, vl_d, vl_d, up_at, if_pos rfl, y1, bv_s, vl_d, w1, bv_s]
      have TT : ∀ f, (f < 823 ∨ f = 831) → τ2 f = up τ 800 0 0 0 f := fun f x => by rw [w4 f (by simp; omega), up_fn (by omega), y3 f (by simp; omega)]
      have A : ∀ f, (2 ≤ f ∧ f ≠ 301 ∧ f ≠ 501 ∧ f ≠ 502) → up σ1 1 60 0 0 f = σ f := fun f x => by rw [up_fn (by omega), z4.1 f (by simp; omega)]
      refine ⟨(0, 0), (), _, _, rfl, rfl, Or.inl ⟨rfl, by rw [TT 800 (by omega), up_at]⟩, (h.z (x := 0)).mv (fun f x => A f (by omega)) (fun f x y => TT f (by omega)), ⟨qp Q (a1, T), [], ?_, w2, ?_, q4.push ⟨hp, q7, hL⟩, ⟨by rw [up_at]; rfl, fun i hi => absurd hi (Nat.not_lt_zero i)⟩, ⟨?_, by decide, fun i hi => absurd hi (Nat.not_lt_zero i)⟩, fun i => ⟨0, by decide, rfl⟩⟩, fun f x => A f (by omega), fun f x => by rw [TT f (by omega), up_fn (by omega)]⟩
      · exact z2.mv (fun f x => up_fn (by omega)) (fun f j x y => up_fj (by omega))
      · rw [up_fn (by decide), z3, w3, up_fn (by decide), y3 824 (by decide), q3]
      · rw [w4 830 (by decide), up_at]; rfl
  · rw [e1, e2, bn_s, bn_s, i00, i00]; exact bad
theorem s_15 {σ : Mem} {o : Nat → Int64} (a1 a2 a3 a4 : Int32) (hI : INV σ) : ∃ r, lc_15 a1 a2 a3 a4 σ o = some r ∧ INV r.1 := by
  obtain ⟨a, -, σ', τ', e1, e2, rv, hI'⟩ := sync (fun (a : Int32 × Int32) (s : Mem) => f_X7_inject a1 σ = some (a.1, a.2, s)) (fun τ (_ : Unit) τ' => f_X8_inject a1 τ = some τ') _ uqT hI (fun τ Q T h hq => h_inject a1 h hq)
  unfold lc_15 f_L_inject f_X8_thrown
  rw [e1, bt_s]
  dsimp only
  refine ⟨(τ', o), ?_, hI'⟩
  rcases rv with ⟨c, t⟩ | ⟨c, t⟩
  · rw [if_pos c, bl_s, e2, bv_s, bn_s, if_pos t]
  · rw [c, if_neg (by decide), if_pos rfl, bl_s, e2, bv_s, bn_s, if_pos t]
