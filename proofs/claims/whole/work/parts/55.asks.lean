/-! client, record and count, on both sides -/
theorem h_client {σ τ : Mem} {Q : List Pk} {T : List Int32} (a1 a2 : Int32) (h : RST σ τ) (hq : RQT σ τ Q T) : ∃ (a : Int32 × Int32) (b : Int32) (σ' τ' : Mem), f_X7_client a1 a2 σ = some (a.1, a.2, σ') ∧ f_X8_client a1 a2 τ = some (b, τ') ∧ ((a.1 = 0 ∧ τ' 800 0 0 = 0 ∧ a.2 = b) ∨ (a.1 = 1 ∧ τ' 800 0 0 = 1) ∨ (a.1 = 4 ∧ τ' 800 0 0 = 2)) ∧ REL σ τ σ' τ' := by
  unfold f_X7_client f_X8_client
  rcases cli_cases a1 with ⟨c, hc, rfl, e1, e2⟩ | ⟨e1, e2⟩
  · rw [e1, e2, bn_s, bn_s, i10, i10, gd_p (v12 hc), cln (by omega)]
    have bad : ∃ (a : Int32 × Int32) (b : Int32) (σ' τ' : Mem), some ((4 : Int32), (0 : Int32), σ) = some (a.1, a.2, σ') ∧ f_X8_client_22 (nI c) a2 τ = some (b, τ') ∧ ((a.1 = 0 ∧ τ' 800 0 0 = 0 ∧ a.2 = b) ∨ (a.1 = 1 ∧ τ' 800 0 0 = 1) ∨ (a.1 = 4 ∧ τ' 800 0 0 = 2)) ∧ REL σ τ σ' τ' := by
      unfold f_X8_client_22 f_X8_client_27
      rw [vl_d, up_at, if_neg (by decide)]
      exact ⟨(4, 0), 0, _, _, rfl, rfl, Or.inr (Or.inr ⟨rfl, up_at _ _ _ _ _⟩), REL.thr 2 h hq⟩
    have ok : ∀ v : Int32, ∃ (a : Int32 × Int32) (b : Int32) (σ' τ' : Mem), some ((0 : Int32), v, σ) = some (a.1, a.2, σ') ∧ some (v, up τ 800 0 0 0) = some (b, τ') ∧ ((a.1 = 0 ∧ τ' 800 0 0 = 0 ∧ a.2 = b) ∨ (a.1 = 1 ∧ τ' 800 0 0 = 1) ∨ (a.1 = 4 ∧ τ' 800 0 0 = 2)) ∧ REL σ τ σ' τ' := fun v => ⟨(0, v), v, _, _, rfl, rfl, Or.inl ⟨rfl, up_at _ _ _ _ _, rfl⟩, REL.thr 0 h hq⟩
    have hz : REQ σ (up τ 800 0 0 0) := h.z.2.2.1
    rcases pk_ix a2 (n := 7) (by decide) with w | w | ⟨n, hn, rfl⟩
    · have a : a2.toInt < 0 := Int32.lt_iff_toInt_lt.mp w
      have ne : ∀ k : Int32, 0 ≤ k.toInt → ¬ a2 = k := fun k hk q => by rw [q] at a; omega
      rw [if_pos w, if_neg (ne 0 (by decide)), if_neg (ne 1 (by decide)), if_neg (ne 2 (by decide)), if_neg (ne 3 (by decide)), if_neg (ne 4 (by decide)), if_neg (ne 5 (by decide)), if_neg (ne 6 (by decide))]
      exact bad
    · have a : 7 ≤ a2.toInt := Int32.le_iff_toInt_le.mp w
      have ne : ∀ k : Int32, k.toInt < 7 → ¬ a2 = k := fun k hk q => by rw [q] at a; omega
      rw [if_neg (show ¬ a2 < 0 from fun q => by have q : a2.toInt < 0 := Int32.lt_iff_toInt_lt.mp q; omega), if_neg (show ¬ a2 ≤ 6 from fun q => by have q : a2.toInt ≤ 6 := Int32.le_iff_toInt_le.mp q; omega), if_neg (ne 0 (by decide)), if_neg (ne 1 (by decide)), if_neg (ne 2 (by decide)), if_neg (ne 3 (by decide)), if_neg (ne 4 (by decide)), if_neg (ne 5 (by decide)), if_neg (ne 6 (by decide))]
      exact bad
    · rw [if_neg (nI_pos (n := n) (by omega)), if_pos (show nI n ≤ 6 from nI_le (b := 6) (by omega) (by decide))]
      unfold f_X8_client_27
      rw [vl_d, up_at, if_pos (show (0 : Int32) ≤ 0 by decide)]
      simp only [gd_p (v12 hc), cln (show c < 2 ^ 31 by omega), m_uses hc, k_uses, bn_k]
      rw [RQ_at hz (f := 101) (g := 812) (by decide) hc, RQ_at hz (f := 102) (g := 813) (by decide) hc, RQ_at hz (f := 103) (g := 814) (by decide) hc, RQ_at hz (f := 104) (g := 815) (by decide) hc, RQ_at hz (f := 107) (g := 818) (by decide) hc, RQ_at hz (f := 108) (g := 820) (by decide) hc]
      rcases (show n = 0 ∨ n = 1 ∨ n = 2 ∨ n = 3 ∨ n = 4 ∨ n = 5 ∨ n = 6 by omega) with rfl | rfl | rfl | rfl | rfl | rfl | rfl
      · simp only [if_neg (show ¬ nI 0 = 1 by decide), if_neg (show ¬ nI 0 = 2 by decide), if_neg (show ¬ nI 0 = 3 by decide), if_neg (show ¬ nI 0 = 4 by decide), if_neg (show ¬ nI 0 = 5 by decide), if_neg (show ¬ nI 0 = 6 by decide), if_pos (show nI 0 = 0 from rfl), if_neg (show ¬ (4 : Int32) ≤ nI 0 by decide)]
        exact ok _
      · simp only [if_neg (show ¬ nI 1 = 0 by decide), if_neg (show ¬ nI 1 = 2 by decide), if_neg (show ¬ nI 1 = 3 by decide), if_neg (show ¬ nI 1 = 4 by decide), if_neg (show ¬ nI 1 = 5 by decide), if_neg (show ¬ nI 1 = 6 by decide), if_pos (show nI 1 = 1 from rfl), if_neg (show ¬ (4 : Int32) ≤ nI 1 by decide)]
        exact ok _
      · simp only [if_neg (show ¬ nI 2 = 0 by decide), if_neg (show ¬ nI 2 = 1 by decide), if_neg (show ¬ nI 2 = 3 by decide), if_neg (show ¬ nI 2 = 4 by decide), if_neg (show ¬ nI 2 = 5 by decide), if_neg (show ¬ nI 2 = 6 by decide), if_pos (show nI 2 = 2 from rfl), if_neg (show ¬ (4 : Int32) ≤ nI 2 by decide)]
        exact ok _
      · simp only [if_neg (show ¬ nI 3 = 0 by decide), if_neg (show ¬ nI 3 = 1 by decide), if_neg (show ¬ nI 3 = 2 by decide), if_neg (show ¬ nI 3 = 4 by decide), if_neg (show ¬ nI 3 = 5 by decide), if_neg (show ¬ nI 3 = 6 by decide), if_pos (show nI 3 = 3 from rfl), if_neg (show ¬ (4 : Int32) ≤ nI 3 by decide)]
        by_cases q : usx (σ 101 c 0) = 0
        · rw [if_pos q, if_pos q]; exact ok 0
        · rw [if_neg q, if_neg q]; exact ok _
      · simp only [if_neg (show ¬ nI 4 = 0 by decide), if_neg (show ¬ nI 4 = 1 by decide), if_neg (show ¬ nI 4 = 2 by decide), if_neg (show ¬ nI 4 = 3 by decide), if_neg (show ¬ nI 4 = 5 by decide), if_neg (show ¬ nI 4 = 6 by decide), if_pos (show nI 4 = 4 from rfl), if_pos (show (4 : Int32) ≤ nI 4 by decide)]
        exact ok _
      · simp only [if_neg (show ¬ nI 5 = 0 by decide), if_neg (show ¬ nI 5 = 1 by decide), if_neg (show ¬ nI 5 = 2 by decide), if_neg (show ¬ nI 5 = 3 by decide), if_neg (show ¬ nI 5 = 4 by decide), if_neg (show ¬ nI 5 = 6 by decide), if_pos (show nI 5 = 5 from rfl), if_pos (show (4 : Int32) ≤ nI 5 by decide)]
        exact ok _
      · simp only [if_neg (show ¬ nI 6 = 0 by decide), if_neg (show ¬ nI 6 = 1 by decide), if_neg (show ¬ nI 6 = 2 by decide), if_neg (show ¬ nI 6 = 3 by decide), if_neg (show ¬ nI 6 = 4 by decide), if_neg (show ¬ nI 6 = 5 by decide), if_pos (show nI 6 = 6 from rfl), if_pos (show (4 : Int32) ≤ nI 6 by decide)]
        exact ok _
  · rw [e1, e2, bn_s, bn_s, i00, i00]
    unfold f_X8_client_27
    rw [vl_d, up_at, if_neg (by decide)]
    exact ⟨(1, 0), 0, _, _, rfl, rfl, Or.inr (Or.inl ⟨rfl, up_at _ _ _ _ _⟩), REL.thr 1 h hq⟩
theorem s_16 {σ : Mem} {o : Nat → Int64} (a1 a2 a3 a4 : Int32) (hI : INV σ) : ∃ r, lc_16 a1 a2 a3 a4 σ o = some r ∧ INV r.1 := by
  obtain ⟨a, b, σ', τ', e1, e2, rv, hI'⟩ := sync (fun (a : Int32 × Int32) (s : Mem) => f_X7_client a1 a2 σ = some (a.1, a.2, s)) (fun τ (b : Int32) τ' => f_X8_client a1 a2 τ = some (b, τ')) _ uqT hI (fun τ Q T h hq => h_client a1 a2 h hq)
  unfold lc_16 f_L_client f_X8_thrown
  rw [e1, bt_s]
  dsimp only
  rcases rv with ⟨c, t, v⟩ | ⟨c, t⟩ | ⟨c, t⟩
  · rw [if_pos c, bl_s, e2, bn_s, bn_s, if_pos t, if_pos rfl, upL0, v, lg_self, if_pos rfl]
    exact ⟨_, rfl, hI'⟩
  · rw [c, if_neg (by decide), if_pos rfl, bl_s, e2, bn_s, bn_s, if_pos t, if_neg (by decide)]
    exact ⟨_, rfl, hI'⟩
  · rw [c, if_neg (by decide), if_neg (by decide), if_pos rfl, bl_s, e2, bn_s, bn_s, if_pos t, if_neg (by decide)]
    exact ⟨_, rfl, hI'⟩
theorem h_record {σ τ : Mem} {Q : List Pk} {T : List Int32} (a1 a2 : Int32) (h : RST σ τ) (hq : RQT σ τ Q T) : ∃ (a : Int32 × Int32) (b : Int32) (σ' τ' : Mem), f_X7_record a1 a2 σ = some (a.1, a.2, σ') ∧ f_X8_record a1 a2 τ = some (b, τ') ∧ ((a.1 = 0 ∧ τ' 800 0 0 = 0 ∧ a.2 = b) ∨ (a.1 = 4 ∧ τ' 800 0 0 = 1)) ∧ REL σ τ σ' τ' := by
  have bad : ∃ (a : Int32 × Int32) (b : Int32) (σ' τ' : Mem), some ((4 : Int32), (0 : Int32), σ) = some (a.1, a.2, σ') ∧ f_X8_record_17 a1 a2 τ = some (b, τ') ∧ ((a.1 = 0 ∧ τ' 800 0 0 = 0 ∧ a.2 = b) ∨ (a.1 = 4 ∧ τ' 800 0 0 = 1)) ∧ REL σ τ σ' τ' := by
    unfold f_X8_record_17 f_X8_record_22
    rw [vl_d, up_at, if_neg (by decide)]
    exact ⟨(4, 0), 0, _, _, rfl, rfl, Or.inr ⟨rfl, up_at _ _ _ _ _⟩, REL.thr 1 h hq⟩
  have ok : ∀ v : Int32, ∃ (a : Int32 × Int32) (b : Int32) (σ' τ' : Mem), some ((0 : Int32), v, σ) = some (a.1, a.2, σ') ∧ some (v, up τ 800 0 0 0) = some (b, τ') ∧ ((a.1 = 0 ∧ τ' 800 0 0 = 0 ∧ a.2 = b) ∨ (a.1 = 4 ∧ τ' 800 0 0 = 1)) ∧ REL σ τ σ' τ' := fun v => ⟨(0, v), v, _, _, rfl, rfl, Or.inl ⟨rfl, up_at _ _ _ _ _, rfl⟩, REL.thr 0 h hq⟩
  unfold f_X7_record f_X8_record
  rcases adr_cases a1 with ⟨n, n1, n2, rfl, e1, e2⟩ | ⟨e1, e2, -⟩
  · rw [e1, e2, bn_s, bn_s, i10, i10]
    obtain ⟨r1, r2, r3, r4, r5⟩ := h.2.2.2.2.2.2.1 n n2
    rcases pk_ix a2 (n := 3) (by decide) with w | w | ⟨m, hm, rfl⟩
    · have a : a2.toInt < 0 := Int32.lt_iff_toInt_lt.mp w
      have ne : ∀ k : Int32, 0 ≤ k.toInt → ¬ a2 = k := fun k hk q => by rw [q] at a; omega
      rw [if_pos w, if_neg (ne 0 (by decide)), if_neg (ne 1 (by decide)), if_neg (ne 2 (by decide))]
      exact bad
    · have a : 3 ≤ a2.toInt := Int32.le_iff_toInt_le.mp w
      have ne : ∀ k : Int32, k.toInt < 3 → ¬ a2 = k := fun k hk q => by rw [q] at a; omega
      rw [if_neg (show ¬ a2 < 0 from fun q => by have q : a2.toInt < 0 := Int32.lt_iff_toInt_lt.mp q; omega), if_neg (show ¬ a2 ≤ 2 from fun q => by have q : a2.toInt ≤ 2 := Int32.le_iff_toInt_le.mp q; omega), if_neg (ne 0 (by decide)), if_neg (ne 1 (by decide)), if_neg (ne 2 (by decide))]
      exact bad
    · rw [if_neg (nI_pos (n := m) (by omega)), if_pos (show nI m ≤ 2 from nI_le (b := 2) (by omega) (by decide))]
      unfold f_X8_record_22 f_X8_record_72
      rw [vl_d, up_at, if_pos (show (0 : Int32) ≤ 0 by decide), up_fn (f := 800) (f' := 807) (by decide), up_fn (f := 800) (f' := 808) (by decide), up_fn (f := 800) (f' := 809) (by decide)]
      simp only [gd_p (vin_n n2 (by decide)), cln (show n < 2 ^ 31 by omega)]
      rw [r1, r2, r4]
      rcases (show m = 0 ∨ m = 1 ∨ m = 2 by omega) with rfl | rfl | rfl
      · rw [if_pos (show nI 0 = 0 from rfl), if_pos (show nI 0 = 0 from rfl)]; exact ok _
      · rw [if_neg (show ¬ nI 1 = 0 by decide), if_neg (show ¬ nI 1 = 0 by decide), if_pos (show nI 1 = 1 from rfl), if_pos (show nI 1 = 1 from rfl)]
        by_cases q1 : τ 807 0 n = 1
        · rw [if_pos (Or.inl q1), if_pos q1]; exact ok _
        · rw [if_neg q1]
          by_cases q2 : τ 807 0 n = 2
          · rw [if_pos (Or.inr q2), if_pos q2]; exact ok _
          · rw [if_neg (show ¬ (τ 807 0 n = 1 ∨ τ 807 0 n = 2) from fun w => w.elim q1 q2), if_neg q2]; exact ok _
      · rw [if_neg (show ¬ nI 2 = 0 by decide), if_neg (show ¬ nI 2 = 0 by decide), if_neg (show ¬ nI 2 = 1 by decide), if_neg (show ¬ nI 2 = 1 by decide), if_pos (show nI 2 = 2 from rfl)]; exact ok _
  · rw [e1, e2, bn_s, bn_s, i00, i00]; exact bad
theorem s_17 {σ : Mem} {o : Nat → Int64} (a1 a2 a3 a4 : Int32) (hI : INV σ) : ∃ r, lc_17 a1 a2 a3 a4 σ o = some r ∧ INV r.1 := by
  obtain ⟨a, b, σ', τ', e1, e2, rv, hI'⟩ := sync (fun (a : Int32 × Int32) (s : Mem) => f_X7_record a1 a2 σ = some (a.1, a.2, s)) (fun τ (b : Int32) τ' => f_X8_record a1 a2 τ = some (b, τ')) _ uqT hI (fun τ Q T h hq => h_record a1 a2 h hq)
  unfold lc_17 f_L_record f_X8_thrown
  rw [e1, bt_s]
  dsimp only
  rcases rv with ⟨c, t, v⟩ | ⟨c, t⟩
  · rw [if_pos c, bl_s, e2, bn_s, bn_s, if_pos t, if_pos rfl, upL0, v, lg_self, if_pos rfl]
    exact ⟨_, rfl, hI'⟩
  · rw [c, if_neg (by decide), if_pos rfl, bl_s, e2, bn_s, bn_s, if_pos t, if_neg (by decide)]
    exact ⟨_, rfl, hI'⟩
