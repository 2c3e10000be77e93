/-! count, on both sides -/
def cnt (P : Nat → Bool) : Nat → Nat
  | 0 => 0
  | n + 1 => cnt P n + if P n = true then 1 else 0
theorem cnt_le (P : Nat → Bool) : ∀ n, cnt P n ≤ n := by
  intro n
  induction n with
  | zero => exact Nat.le_refl 0
  | succ n ih =>
    show cnt P n + (if P n = true then 1 else 0) ≤ n + 1
    split <;> omega
theorem cnt_y {P : Nat → Bool} {n : Nat} (h : P n = true) : cnt P (n + 1) = cnt P n + 1 := by
  show cnt P n + (if P n = true then 1 else 0) = _
  rw [if_pos h]
theorem cnt_n {P : Nat → Bool} {n : Nat} (h : ¬ P n = true) : cnt P (n + 1) = cnt P n := by
  show cnt P n + (if P n = true then 1 else 0) = _
  rw [if_neg h]; rfl
theorem cnt_skip {P : Nat → Bool} {m : Nat} : ∀ d, (∀ a, m ≤ a → a < m + d → ¬ P a = true) → cnt P (m + d) = cnt P m := by
  intro d
  induction d with
  | zero => intro _; rfl
  | succ d ih =>
    intro h
    rw [← Nat.add_assoc, cnt_n (h (m + d) (by omega) (by omega))]
    exact ih (fun a x y => h a x (by omega))
theorem cnt_to {P : Nat → Bool} {m n : Nat} (hmn : m ≤ n) (h : ∀ a, m ≤ a → a < n → ¬ P a = true) : cnt P n = cnt P m := by
  have := cnt_skip (P := P) (m := m) (n - m) (fun a x y => h a x (by omega))
  rwa [show m + (n - m) = n by omega] at this
def KPT (τ : Mem) (a : Nat) : Bool := decide (¬ τ 807 0 a = 0)
theorem k_kept {σ τ : Mem} (hR : RRE σ τ) : f_X6_recordsKept σ = some (nI (cnt (KPT τ) 1024), σ) := by
  have loop : ∀ (t i : Nat), 1024 - i < t → i ≤ 1024 → f_X6_recordsKept_4 t (nI (cnt (KPT τ) i)) (nI i) σ = some (nI (cnt (KPT τ) 1024), σ) := by
    intro t
    induction t with
    | zero => intro i h; omega
    | succ t ih =>
      intro i ht hi
      rw [f_X6_recordsKept_4.eq_2]
      by_cases c : 1024 ≤ i
      · rw [if_pos (show (1024 : Int32) ≤ nI i from nI_le (a := 1024) c (by omega)), show i = 1024 by omega]
      · rw [if_neg (show ¬ (1024 : Int32) ≤ nI i from nI_ge (a := i) (b := 1024) (by omega) (by decide)), gd_p (vin_n (by omega) (by decide)), cln (by omega), (hR i (by omega)).1]
        unfold f_X6_recordsKept_23
        rw [vl_d, nI_1]
        by_cases q : τ 807 0 i = 0
        · rw [if_pos q, ← cnt_n (P := KPT τ) (n := i) (by unfold KPT; simp [q])]
          exact ih (i + 1) (by omega) (by omega)
        · rw [if_neg q, vl_d, vl_d, nI_1, ← cnt_y (P := KPT τ) (n := i) (by unfold KPT; simp [q])]
          exact ih (i + 1) (by omega) (by omega)
  unfold f_X6_recordsKept
  exact loop 5000 0 (by decide) (by decide)
theorem m_kept {σ τ : Mem} (hR : RRE σ τ) : f_X8_count_70 5000 2 0 1 τ = some (nI (cnt (KPT τ) 1024), τ) := by
  have loop : ∀ (t i : Nat), 1024 - i < t → i ≤ 1024 → f_X8_count_70 t 2 (nI (cnt (KPT τ) i)) (nI i) τ = some (nI (cnt (KPT τ) 1024), τ) := by
    intro t
    induction t with
    | zero => intro i h; omega
    | succ t ih =>
      intro i ht hi
      rw [f_X8_count_70.eq_2]
      by_cases c : 1024 ≤ i
      · rw [if_pos (show (1024 : Int32) ≤ nI i from nI_le (a := 1024) c (by omega)), show i = 1024 by omega]
      · rw [if_neg (show ¬ (1024 : Int32) ≤ nI i from nI_ge (a := i) (b := 1024) (by omega) (by decide)), if_pos rfl, gd_p (vin_n (by omega) (by decide)), cln (by omega)]
        unfold f_X8_count_125
        by_cases q : τ 807 0 i = 0
        · rw [if_pos (by rw [q]; decide), vl_d, vl_d, nI_1, Int32.add_zero, ← cnt_n (P := KPT τ) (n := i) (by unfold KPT; simp [q])]
          exact ih (i + 1) (by omega) (by omega)
        · have : ¬ τ 807 0 i ≤ 0 := by
            rcases (hR i (by omega)).2.2.1 with e | e | e | e
            · exact absurd e q
            all_goals rw [e]; decide
          rw [if_neg this, vl_d, vl_d, nI_1, nI_1, ← cnt_y (P := KPT τ) (n := i) (by unfold KPT; simp [q])]
          exact ih (i + 1) (by omega) (by omega)
  have h0 : cnt (KPT τ) 1 = 0 := by
    rw [cnt_n (P := KPT τ) (n := 0) (by unfold KPT; simp [(hR 0 (by decide)).2.2.2.2 rfl])]; rfl
  have := loop 5000 1 (by decide) (by decide)
  rw [h0] at this
  exact this
/-! what is free in the pools -/
def INP (τ : Mem) (a : Nat) : Bool := decide (¬ τ 803 0 (a / 256) ≤ 0) && (decide (¬ nI (a - 256 * (a / 256)) < τ 802 0 (a / 256)) && decide (¬ τ 803 0 (a / 256) < nI (a - 256 * (a / 256))))
def FRB (t : Int32) (τ : Mem) (a : Nat) : Bool := INP τ a && (decide (τ 807 0 a = 0) || decide (¬ t < τ 809 0 a))
theorem m_inP {τ : Mem} {a : Nat} (ha : a < 1024) : f_X8_isInPool (nI (a / 256)) (nI a) τ = some (if INP τ a = true then 1 else 0, τ) := by
  have hs : a / 256 < 4 := by omega
  unfold f_X8_isInPool INP
  rw [vl_d, gd_p (v4 hs), gd_p (v4 hs), gd_p (v4 hs), cln (by omega), n256, pk_sub (by omega)]
  by_cases c1 : τ 803 0 (a / 256) ≤ 0
  · rw [if_pos c1]; simp [c1]
  · rw [if_neg c1]
    by_cases c2 : nI (a - 256 * (a / 256)) < τ 802 0 (a / 256)
    · rw [if_pos c2]; simp [c2]
    · rw [if_neg c2]
      by_cases c3 : τ 803 0 (a / 256) < nI (a - 256 * (a / 256))
      · rw [if_pos c3]; simp [c3]
      · rw [if_neg c3]; simp [c1, c2, c3]
theorem FRB_iff {t : Int32} {τ : Mem} {a : Nat} : FRB t τ a = true ↔ (INP τ a = true ∧ FRE t τ a) := by
  unfold FRB FRE
  simp
theorem m_freeC {σ τ : Mem} {t : Int32} (hR : RRE σ τ) (ht : t = τ 801 0 0) (h0 : ¬ INP τ 0 = true) : f_X8_count_70 5000 4 0 1 τ = some (nI (cnt (FRB t τ) 1024), τ) := by
  have loop : ∀ (n i : Nat), 1024 - i < n → i ≤ 1024 → f_X8_count_70 n 4 (nI (cnt (FRB t τ) i)) (nI i) τ = some (nI (cnt (FRB t τ) 1024), τ) := by
    intro n
    induction n with
    | zero => intro i h; omega
    | succ n ih =>
      intro i hn hi
      rw [f_X8_count_70.eq_2]
      by_cases c : 1024 ≤ i
      · rw [if_pos (show (1024 : Int32) ≤ nI i from nI_le (a := 1024) c (by omega)), show i = 1024 by omega]
      · rw [if_neg (show ¬ (1024 : Int32) ≤ nI i from nI_ge (a := i) (b := 1024) (by omega) (by decide)), if_neg (by decide), pk_shrN (n := i) (by omega) ((8 : Int32) &&& 31) 8 (by decide), m_inP (by omega), bn_s]
        unfold f_X8_count_124 f_X8_count_125
        by_cases q : INP τ i = true
        · rw [if_pos q, i10]
          rcases b_isFree (t := t) (hR i (by omega)) (by omega) ht with ⟨o, -, e⟩ | ⟨o, -, e⟩
          · rw [e, bn_s, i10, vl_d, vl_d, nI_1, nI_1, ← cnt_y (P := FRB t τ) (n := i) (FRB_iff.mpr ⟨q, o⟩)]
            exact ih (i + 1) (by omega) (by omega)
          · rw [e, bn_s, i00, vl_d, vl_d, nI_1, Int32.add_zero, ← cnt_n (P := FRB t τ) (n := i) (fun w => o (FRB_iff.mp w).2)]
            exact ih (i + 1) (by omega) (by omega)
        · rw [if_neg q, i00, vl_d, vl_d, nI_1, Int32.add_zero, ← cnt_n (P := FRB t τ) (n := i) (fun w => q (FRB_iff.mp w).1)]
          exact ih (i + 1) (by omega) (by omega)
  have e0 : cnt (FRB t τ) 1 = 0 := by
    rw [cnt_n (P := FRB t τ) (n := 0) (fun w => h0 (FRB_iff.mp w).1)]; rfl
  have := loop 5000 1 (by decide) (by decide)
  rw [e0] at this
  exact this
theorem inP_out {σ τ : Mem} (hP : RPO σ τ) {s a : Nat} (hs : s < 4) (ha : a / 256 = s) : (τ 803 0 s = 0 → ¬ INP τ a = true) ∧ ∀ lo hi, PXS σ τ s lo hi → (INP τ a = true ↔ (256 * s + lo ≤ a ∧ a ≤ 256 * s + hi)) := by
  unfold INP
  rw [ha]
  refine ⟨fun q => ?_, fun lo hi p => ?_⟩
  · rw [q]; simp
  · obtain ⟨-, p1, p2, p3, -, -, p6, p7, -, -⟩ := p
    rw [p6, p7]
    have a1 : ¬ nI hi ≤ 0 := nI_nle (by omega) (by omega)
    have a2 : (nI (a - 256 * s) < nI lo) ↔ a - 256 * s < lo := nI_ltI (by omega) (by omega)
    have a3 : (nI hi < nI (a - 256 * s)) ↔ hi < a - 256 * s := nI_ltI (by omega) (by omega)
    simp only [a1, a2, a3, Bool.and_eq_true, decide_eq_true_eq]
    simp
    omega
theorem k_freeC {σ τ : Mem} {t : Int32} (hP : RPO σ τ) (hR : RRE σ τ) (ht : t = τ 801 0 0) : f_X6_freeInPools t σ = some (nI (cnt (FRB t τ) 1024), σ) := by
  have loop : ∀ (n s : Nat), 4 - s < n → s ≤ 4 → f_X6_freeInPools_4 n t (nI (cnt (FRB t τ) (256 * s))) (nI s) σ = some (nI (cnt (FRB t τ) 1024), σ) := by
    intro n
    induction n with
    | zero => intro s h; omega
    | succ n ih =>
      intro s hn hs4
      rw [f_X6_freeInPools_4.eq_2]
      by_cases c : 4 ≤ s
      · rw [if_pos (show (4 : Int32) ≤ nI s from nI_le (a := 4) c (by omega)), show s = 4 by omega]
      · have hs : s < 4 := by omega
        rw [if_neg (show ¬ (4 : Int32) ≤ nI s from nI_ge (a := s) (b := 4) hs (by decide)), gd_p (v4 hs), cln (by omega)]
        have nx := ih (s + 1) (by omega) (by omega)
        rcases hP s hs with ⟨p1, p2⟩ | ⟨lo, hi, p⟩
        · have e : f_X4_exists s σ = some (0, σ) := by unfold f_X4_exists; rw [p1, if_pos rfl]
          rw [show (5000 : Nat) = 4999 + 1 from rfl, f_X6_freeInPools_24.eq_2, e, bn_s, i00]
          unfold f_X6_freeInPools_61
          rw [vl_d, nI_1]
          have : cnt (FRB t τ) (256 * (s + 1)) = cnt (FRB t τ) (256 * s) := cnt_to (by omega) (fun a x y w => (inP_out hP (a := a) hs (by omega)).1 p2 (FRB_iff.mp w).1)
          rw [this] at nx
          exact nx
        · have px : PXS σ τ s lo hi := ⟨hs, p⟩
          have out := fun a ha => (inP_out hP (a := a) hs ha).2 lo hi px
          have hex := k_exists px
          obtain ⟨p1, p2, p3, p4, p5, -⟩ := p
          have inner : ∀ (m a : Nat), 256 * s + hi + 1 - a < m → 256 * s + lo ≤ a → a ≤ 256 * s + hi + 1 → f_X6_freeInPools_24 (f_X6_freeInPools_4 n) m t (nI (cnt (FRB t τ) a)) (nI s) s (nI a) σ = some (nI (cnt (FRB t τ) 1024), σ) := by
            intro m
            induction m with
            | zero => intro a h; omega
            | succ m ihm =>
              intro a hm ha1 ha2
              rw [f_X6_freeInPools_24.eq_2, hex, bn_s, i10, p5]
              by_cases c2 : 256 * s + hi < a
              · rw [if_pos (nI_lt c2 (by omega))]
                unfold f_X6_freeInPools_61
                rw [vl_d, nI_1]
                have : cnt (FRB t τ) (256 * (s + 1)) = cnt (FRB t τ) a := cnt_to (by omega) (fun b x y w => by
                  have := (out b (by omega)).mp (FRB_iff.mp w).1
                  omega)
                rw [this] at nx
                exact nx
              · rw [if_neg (nI_nlt (by omega) (by omega))]
                unfold f_X6_freeInPools_55
                have hin : INP τ a = true := (out a (by omega)).mpr ⟨ha1, by omega⟩
                rcases b_isFree (t := t) (hR a (by omega)) (by omega) ht with ⟨o, e, -⟩ | ⟨o, e, -⟩
                · rw [e, bn_s, i10, vl_d, vl_d, nI_1, nI_1, ← cnt_y (P := FRB t τ) (n := a) (FRB_iff.mpr ⟨hin, o⟩)]
                  exact ihm (a + 1) (by omega) (by omega) (by omega)
                · rw [e, bn_s, i00, vl_d, nI_1, ← cnt_n (P := FRB t τ) (n := a) (fun w => o (FRB_iff.mp w).2)]
                  exact ihm (a + 1) (by omega) (by omega) (by omega)
          have : cnt (FRB t τ) (256 * s + lo) = cnt (FRB t τ) (256 * s) := cnt_to (by omega) (fun b x y w => by
            have := (out b (by omega)).mp (FRB_iff.mp w).1
            omega)
          rw [p4, ← this]
          exact inner 5000 (256 * s + lo) (by omega) (by omega) (by omega)
  unfold f_X6_freeInPools
  exact loop 5000 0 (by decide) (by decide)
theorem h_count {σ τ : Mem} {Q : List Pk} {T : List Int32} (a1 : Int32) (h : RST σ τ) (hq : RQT σ τ Q T) : ∃ (a : Int32 × Int32) (b : Int32) (σ' τ' : Mem), f_X7_count a1 σ = some (a.1, a.2, σ') ∧ f_X8_count a1 τ = some (b, τ') ∧ ((a.1 = 0 ∧ τ' 800 0 0 = 0 ∧ a.2 = b) ∨ (a.1 = 4 ∧ τ' 800 0 0 = 1)) ∧ REL σ τ σ' τ' := by
  have bad : ∃ (a : Int32 × Int32) (b : Int32) (σ' τ' : Mem), some ((4 : Int32), (0 : Int32), σ) = some (a.1, a.2, σ') ∧ f_X8_count_10 a1 τ = some (b, τ') ∧ ((a.1 = 0 ∧ τ' 800 0 0 = 0 ∧ a.2 = b) ∨ (a.1 = 4 ∧ τ' 800 0 0 = 1)) ∧ REL σ τ σ' τ' := by
    unfold f_X8_count_10 f_X8_count_15
    rw [vl_d, up_at, if_neg (by decide)]
    exact ⟨(4, 0), 0, _, _, rfl, rfl, Or.inr ⟨rfl, up_at _ _ _ _ _⟩, REL.thr 1 h hq⟩
  have ok : ∀ v : Int32, ∃ (a : Int32 × Int32) (b : Int32) (σ' τ' : Mem), some ((0 : Int32), v, σ) = some (a.1, a.2, σ') ∧ some (v, up τ 800 0 0 0) = some (b, τ') ∧ ((a.1 = 0 ∧ τ' 800 0 0 = 0 ∧ a.2 = b) ∨ (a.1 = 4 ∧ τ' 800 0 0 = 1)) ∧ REL σ τ σ' τ' := fun v => ⟨(0, v), v, _, _, rfl, rfl, Or.inl ⟨rfl, up_at _ _ _ _ _, rfl⟩, REL.thr 0 h hq⟩
  have hz := h.z (x := 0)
  unfold f_X7_count f_X8_count
  rcases pk_ix a1 (n := 5) (by decide) with w | w | ⟨n, hn, rfl⟩
  · have a : a1.toInt < 0 := Int32.lt_iff_toInt_lt.mp w
    have ne : ∀ k : Int32, 0 ≤ k.toInt → ¬ a1 = k := fun k hk q => by rw [q] at a; omega
    rw [if_pos w, if_neg (ne 0 (by decide)), if_neg (ne 1 (by decide)), if_neg (ne 2 (by decide)), if_neg (ne 3 (by decide)), if_neg (ne 4 (by decide))]
    exact bad
  · have a : 5 ≤ a1.toInt := Int32.le_iff_toInt_le.mp w
    have ne : ∀ k : Int32, k.toInt < 5 → ¬ a1 = k := fun k hk q => by rw [q] at a; omega
    rw [if_neg (show ¬ a1 < 0 from fun q => by have q : a1.toInt < 0 := Int32.lt_iff_toInt_lt.mp q; omega), if_neg (show ¬ a1 ≤ 4 from fun q => by have q : a1.toInt ≤ 4 := Int32.le_iff_toInt_le.mp q; omega), if_neg (ne 0 (by decide)), if_neg (ne 1 (by decide)), if_neg (ne 2 (by decide)), if_neg (ne 3 (by decide)), if_neg (ne 4 (by decide))]
    exact bad
  · rw [if_neg (nI_pos (n := n) (by omega)), if_pos (show nI n ≤ 4 from nI_le (b := 4) (by omega) (by decide))]
    unfold f_X8_count_15
    rw [vl_d, up_at, if_pos (show (0 : Int32) ≤ 0 by decide)]
    rcases (show n = 0 ∨ n = 1 ∨ n = 2 ∨ n = 3 ∨ n = 4 by omega) with rfl | rfl | rfl | rfl | rfl
    · rw [if_pos (show nI 0 = 0 from rfl), if_neg (show ¬ (2 : Int32) ≤ nI 0 by decide), if_pos (show nI 0 = 0 from rfl), up_fn (f := 800) (f' := 801) (by decide), h.1]
      exact ok _
    · rw [if_neg (show ¬ nI 1 = 0 by decide), if_pos (show nI 1 = 1 from rfl), if_neg (show ¬ (2 : Int32) ≤ nI 1 by decide), if_neg (show ¬ nI 1 = 0 by decide), up_fn (f := 800) (f' := 824) (by decide), hq.2.2.1]
      exact ok _
    · rw [if_neg (show ¬ nI 2 = 0 by decide), if_neg (show ¬ nI 2 = 1 by decide), if_pos (show nI 2 = 2 from rfl), if_pos (show (2 : Int32) ≤ nI 2 by decide), if_neg (show ¬ nI 2 = 3 by decide)]
      have e2 : f_X8_count_70 5000 (nI 2) 0 1 (up τ 800 0 0 0) = _ := m_kept hz.2.2.2.2.2.2.1
      rw [k_kept hz.2.2.2.2.2.2.1, bn_s, e2]
      exact ok _
    · rw [if_neg (show ¬ nI 3 = 0 by decide), if_neg (show ¬ nI 3 = 1 by decide), if_neg (show ¬ nI 3 = 2 by decide), if_pos (show nI 3 = 3 from rfl), if_pos (show (2 : Int32) ≤ nI 3 by decide), if_pos (show nI 3 = 3 from rfl), up_fn (f := 800) (f' := 806) (by decide)]
      rcases h.2.2.2.2.2.1 with ⟨d1, d2⟩ | ⟨d1, d2⟩
      · rw [d1, d2, i10, i00]; exact ok _
      · rw [d1, d2, i10, i00]; exact ok _
    · rw [if_neg (show ¬ nI 4 = 0 by decide), if_neg (show ¬ nI 4 = 1 by decide), if_neg (show ¬ nI 4 = 2 by decide), if_neg (show ¬ nI 4 = 3 by decide), if_pos (show nI 4 = 4 from rfl), if_pos (show (2 : Int32) ≤ nI 4 by decide), if_neg (show ¬ nI 4 = 3 by decide)]
      have n0 : ¬ INP (up τ 800 0 0 0) 0 = true := by
        rcases hz.2.2.2.1 0 (by decide) with ⟨-, q⟩ | ⟨lo, hi, p⟩
        · exact (inP_out hz.2.2.2.1 (s := 0) (by decide) rfl).1 q
        · intro w
          have := ((inP_out hz.2.2.2.1 (s := 0) (a := 0) (by decide) rfl).2 lo hi ⟨by decide, p⟩).mp w
          have := p.1
          omega
      have e2 : f_X8_count_70 5000 (nI 4) 0 1 (up τ 800 0 0 0) = _ := m_freeC (t := σ 708 0 0) hz.2.2.2.2.2.2.1 hz.1 n0
      rw [k_freeC hz.2.2.2.1 hz.2.2.2.2.2.2.1 hz.1, bn_s, e2]
      exact ok _
theorem s_18 {σ : Mem} {o : Nat → Int64} (a1 a2 a3 a4 : Int32) (hI : INV σ) : ∃ r, lc_18 a1 a2 a3 a4 σ o = some r ∧ INV r.1 := by
  obtain ⟨a, b, σ', τ', e1, e2, rv, hI'⟩ := sync (fun (a : Int32 × Int32) (s : Mem) => f_X7_count a1 σ = some (a.1, a.2, s)) (fun τ (b : Int32) τ' => f_X8_count a1 τ = some (b, τ')) _ uqT hI (fun τ Q T h hq => h_count a1 h hq)
  unfold lc_18 f_L_count f_X8_thrown
  rw [e1, bt_s]
  dsimp only
  rcases rv with ⟨c, t, v⟩ | ⟨c, t⟩
  · rw [if_pos c, bl_s, e2, bn_s, bn_s, if_pos t, if_pos rfl, upL0, v, lg_self, if_pos rfl]
    exact ⟨_, rfl, hI'⟩
  · rw [c, if_neg (by decide), if_pos rfl, bl_s, e2, bn_s, bn_s, if_pos t, if_neg (by decide)]
    exact ⟨_, rfl, hI'⟩
