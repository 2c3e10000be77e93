/-! pools and records, on both sides -/
def RPO (σ τ : Mem) : Prop := ∀ s, s < 4 → (σ 400 s 0 = 0 ∧ τ 803 0 s = 0) ∨ ∃ lo hi, 2 ≤ lo ∧ lo ≤ hi ∧ hi ≤ 250 ∧ σ 400 s 0 = nI (256 * s + lo) ∧ σ 401 s 0 = nI (256 * s + hi) ∧ τ 802 0 s = nI lo ∧ τ 803 0 s = nI hi ∧ σ 402 s 0 = τ 804 0 s ∧ ¬ τ 804 0 s = 0
theorem RPO.mv {σ τ σ' τ' : Mem} (h : RPO σ τ) (a : ∀ f, 400 ≤ f → f < 403 → σ' f = σ f) (b : ∀ f, 802 ≤ f → f < 805 → τ' f = τ f) : RPO σ' τ' := by
  intro s hs
  rw [a 400 (by omega) (by omega), a 401 (by omega) (by omega), a 402 (by omega) (by omega), b 802 (by omega) (by omega), b 803 (by omega) (by omega), b 804 (by omega) (by omega)]
  exact h s hs
/-- the pool of s is there, from A to B -/
def PXS (σ τ : Mem) (s lo hi : Nat) : Prop := s < 4 ∧ 2 ≤ lo ∧ lo ≤ hi ∧ hi ≤ 250 ∧ σ 400 s 0 = nI (256 * s + lo) ∧ σ 401 s 0 = nI (256 * s + hi) ∧ τ 802 0 s = nI lo ∧ τ 803 0 s = nI hi ∧ σ 402 s 0 = τ 804 0 s ∧ ¬ τ 804 0 s = 0
theorem PXS.mv {σ τ σ' τ' : Mem} {s lo hi : Nat} (h : PXS σ τ s lo hi) (a : ∀ f, 400 ≤ f → f < 403 → σ' f = σ f) (b : ∀ f, 802 ≤ f → f < 805 → τ' f = τ f) : PXS σ' τ' s lo hi := by
  unfold PXS
  rw [a 400 (by omega) (by omega), a 401 (by omega) (by omega), a 402 (by omega) (by omega), b 802 (by omega) (by omega), b 803 (by omega) (by omega), b 804 (by omega) (by omega)]
  exact h
def RC1 (σ τ : Mem) (a : Nat) : Prop := σ 602 0 a = τ 807 0 a ∧ σ 604 0 a = τ 809 0 a ∧ (τ 807 0 a = 0 ∨ τ 807 0 a = 1 ∨ τ 807 0 a = 2 ∨ τ 807 0 a = 3) ∧ σ 603 0 a = (if τ 807 0 a = 1 ∨ τ 807 0 a = 2 then τ 808 0 a else -1) ∧ (a = 0 → τ 807 0 a = 0)
def RRE (σ τ : Mem) : Prop := ∀ a, a < 1024 → RC1 σ τ a
theorem RRE.mv {σ τ σ' τ' : Mem} (h : RRE σ τ) (a : ∀ f, 602 ≤ f → f < 605 → σ' f = σ f) (b : ∀ f, 807 ≤ f → f < 810 → τ' f = τ f) : RRE σ' τ' := by
  intro n hn
  unfold RC1
  rw [a 602 (by omega) (by omega), a 603 (by omega) (by omega), a 604 (by omega) (by omega), b 807 (by omega) (by omega), b 808 (by omega) (by omega), b 809 (by omega) (by omega)]
  exact h n hn
theorem RRE.put {σ τ σ' τ' : Mem} {a : Nat} (h : RRE σ τ) (k : ∀ b, b ≠ a → (σ' 602 0 b = σ 602 0 b ∧ σ' 603 0 b = σ 603 0 b ∧ σ' 604 0 b = σ 604 0 b) ∧ τ' 807 0 b = τ 807 0 b ∧ τ' 808 0 b = τ 808 0 b ∧ τ' 809 0 b = τ 809 0 b) (hn : RC1 σ' τ' a) : RRE σ' τ' := by
  intro b hb
  by_cases e : b = a
  · rw [e]; exact hn
  · obtain ⟨⟨k1, k2, k3⟩, k4, k5, k6⟩ := k b e
    unfold RC1
    rw [k1, k2, k3, k4, k5, k6]
    exact h b hb
/-! the least of a range -/
def LST (P : Nat → Prop) (A B r : Nat) : Prop := (r = 0 ∧ ∀ a, A ≤ a → a ≤ B → ¬ P a) ∨ (0 < r ∧ A ≤ r ∧ r ≤ B ∧ P r ∧ ∀ a, A ≤ a → a < r → ¬ P a)
theorem LST.uq {P P2 : Nat → Prop} {A B r r2 : Nat} (h : LST P A B r) (h2 : LST P2 A B r2) (hp : ∀ a, A ≤ a → a ≤ B → (P a ↔ P2 a)) : r = r2 := by
  rcases h with ⟨e, f⟩ | ⟨e0, e1, e2, e3, e4⟩ <;> rcases h2 with ⟨g, k⟩ | ⟨g0, g1, g2, g3, g4⟩
  · omega
  · exact absurd ((hp _ g1 g2).mpr g3) (f _ g1 g2)
  · exact absurd ((hp _ e1 e2).mp e3) (k _ e1 e2)
  · by_cases q : r < r2
    · exact absurd ((hp _ e1 e2).mp e3) (g4 _ e1 q)
    · by_cases q2 : r2 < r
      · exact absurd ((hp _ g1 g2).mpr g3) (e4 _ g1 q2)
      · omega
def OWC (x : Int32) (σ : Mem) (a : Nat) : Prop := σ 603 0 a = x
def OWM (x : Int32) (τ : Mem) (a : Nat) : Prop := (τ 807 0 a = 1 ∨ τ 807 0 a = 2) ∧ τ 808 0 a = x
theorem ow_iff {σ τ : Mem} {x : Int32} {a : Nat} (h : RC1 σ τ a) (hx : ¬ x = -1) : OWC x σ a ↔ OWM x τ a := by
  unfold OWC OWM
  rw [h.2.2.2.1]
  by_cases q : τ 807 0 a = 1 ∨ τ 807 0 a = 2
  · rw [if_pos q]; exact ⟨fun e => ⟨q, e⟩, fun e => e.2⟩
  · rw [if_neg q]; exact ⟨fun e => absurd e.symm hx, fun e => absurd e.1 q⟩
theorem k_isOwner {σ : Mem} {x : Int32} {a : Nat} (h1 : 1 ≤ a) (h2 : a < 1024) : (OWC x σ a ∧ f_X6_isOwner x (nI a) σ = some (1, σ)) ∨ (¬ OWC x σ a ∧ f_X6_isOwner x (nI a) σ = some (0, σ)) := by
  unfold f_X6_isOwner OWC
  rcases adr_cases (nI a) with ⟨n, -, -, -, e, -⟩ | ⟨-, -, e⟩
  · rw [e, bn_s, if_neg (by decide), gd_p (vin_n h2 (by decide)), cln (by omega)]
    by_cases q : σ 603 0 a = x
    · rw [if_pos q]; exact Or.inl ⟨q, rfl⟩
    · rw [if_neg q]; exact Or.inr ⟨q, rfl⟩
  · exact absurd rfl (e a h1 h2)
theorem m_isOf {τ σ : Mem} {x : Int32} {a : Nat} (h : RC1 σ τ a) (h2 : a < 1024) : (OWM x τ a ∧ f_X8_isOf (nI a) x τ = some (1, τ)) ∨ (¬ OWM x τ a ∧ f_X8_isOf (nI a) x τ = some (0, τ)) := by
  unfold f_X8_isOf OWM
  rw [gd_p (vin_n h2 (by decide)), gd_p (vin_n h2 (by decide)), gd_p (vin_n h2 (by decide)), cln (by omega)]
  by_cases q : τ 808 0 a = x
  · rw [if_pos q]
    rcases h.2.2.1 with e | e | e | e <;> rw [e]
    · right; exact ⟨fun w => by rcases w.1 with w | w <;> exact absurd w (by decide), rfl⟩
    · left; exact ⟨⟨Or.inl rfl, q⟩, rfl⟩
    · left; exact ⟨⟨Or.inr rfl, q⟩, rfl⟩
    · right; exact ⟨fun w => by rcases w.1 with w | w <;> exact absurd w (by decide), rfl⟩
  · rw [if_neg q]
    right
    refine ⟨fun w => q w.2, ?_⟩
    rcases h.2.2.1 with e | e | e | e <;> rw [e] <;> rfl
theorem k_leastOf {σ : Mem} {x : Int32} {s A B : Nat} (hA : 1 ≤ A) (hAB : A ≤ B) (hB : B < 1024) (h0 : σ 400 s 0 = nI A) (h1 : σ 401 s 0 = nI B) : ∃ r, r ≤ B ∧ f_X6_leastOf x s σ = some (nI r, σ) ∧ LST (OWC x σ) A B r := by
  have loop : ∀ (t a : Nat), B + 1 - a < t → A ≤ a → a ≤ B + 1 → (∀ b, A ≤ b → b < a → ¬ OWC x σ b) → ∃ r, r ≤ B ∧ f_X6_leastOf_5 t x s (nI a) σ = some (nI r, σ) ∧ LST (OWC x σ) A B r := by
    intro t
    induction t with
    | zero => intro a h; omega
    | succ t ih =>
      intro a ht ha hb hn
      rw [f_X6_leastOf_5.eq_2, h1]
      by_cases c : B < a
      · rw [if_pos (nI_lt c (by omega))]
        exact ⟨0, by omega, rfl, Or.inl ⟨rfl, fun b b1 b2 => hn b b1 (by omega)⟩⟩
      · rw [if_neg (nI_nlt (by omega) (by omega)), gd_p (vin_n (by omega) (by decide)), cln (by omega)]
        by_cases o : σ 603 0 a = x
        · rw [if_pos o]
          exact ⟨a, by omega, rfl, Or.inr ⟨by omega, ha, by omega, o, hn⟩⟩
        · rw [if_neg o, vl_d, nI_1]
          refine ih (a + 1) (by omega) (by omega) (by omega) (fun b b1 b2 => ?_)
          by_cases q : b = a
          · rw [q]; exact o
          · exact hn b b1 (by omega)
  unfold f_X6_leastOf
  rw [h0]
  exact loop 5000 A (by omega) (Nat.le_refl _) (by omega) (fun b b1 b2 => by omega)
theorem n256 (s : Nat) : (256 : Int32) * nI s = nI (256 * s) := pk_mul 256 s
theorem v4 {s : Nat} (h : s < 4) : vin (nI s) 4 = true := vin_n h (by decide)
/-- one more at the lower end -/
theorem LST.dn {P : Nat → Prop} {a B r : Nat} (h : LST P (a + 1) B r) (h0 : 0 < a) (hB : a ≤ B) : (P a → LST P a B a) ∧ (¬ P a → LST P a B r) := by
  refine ⟨fun p => Or.inr ⟨h0, Nat.le_refl _, hB, p, fun b b1 b2 => by omega⟩, fun p => ?_⟩
  rcases h with ⟨e, f⟩ | ⟨e0, e1, e2, e3, e4⟩
  · refine Or.inl ⟨e, fun b b1 b2 => ?_⟩
    by_cases q : b = a
    · rw [q]; exact p
    · exact f b (by omega) b2
  · refine Or.inr ⟨e0, by omega, e2, e3, fun b b1 b2 => ?_⟩
    by_cases q : b = a
    · rw [q]; exact p
    · exact e4 b (by omega) b2
theorem m_leastOf {σ τ : Mem} {x : Int32} {s lo hi : Nat} (hP : PXS σ τ s lo hi) (hR : RRE σ τ) : ∃ r, r ≤ 256 * s + hi ∧ f_X8_leastOf (nI s) x τ = some (nI r, τ) ∧ LST (OWM x τ) (256 * s + lo) (256 * s + hi) r := by
  obtain ⟨hs, h2, h3, h4, -, -, e2, e3, -, -⟩ := hP
  have loop : ∀ (t i r : Nat), i < t → lo ≤ i + 1 → i ≤ hi → r ≤ 256 * s + hi → LST (OWM x τ) (256 * s + i + 1) (256 * s + hi) r → ∃ r2, r2 ≤ 256 * s + hi ∧ f_X8_leastOf_10 t (nI s) x (nI r) (nI i) τ = some (nI r2, τ) ∧ LST (OWM x τ) (256 * s + lo) (256 * s + hi) r2 := by
    intro t
    induction t with
    | zero => intro i r h; omega
    | succ t ih =>
      intro i r ht h1 h5 hr hl
      rw [f_X8_leastOf_10.eq_2, gd_p (v4 hs), cln (by omega), e2]
      by_cases c : i < lo
      · rw [if_pos (nI_lt c (by omega))]
        exact ⟨r, hr, rfl, by rw [show 256 * s + lo = 256 * s + i + 1 by omega]; exact hl⟩
      · rw [if_neg (nI_nlt (by omega) (by omega)), if_neg (nI_nle (by omega) (by omega)), n256, nI_add]
        obtain ⟨j, rfl⟩ : ∃ j, i = j + 1 := ⟨i - 1, by omega⟩
        obtain ⟨d1, d2⟩ := hl.dn (by omega) (by omega)
        unfold f_X8_leastOf_54
        rcases m_isOf (x := x) (hR (256 * s + (j + 1)) (by omega)) (by omega) with ⟨o, e⟩ | ⟨o, e⟩
        · rw [e, bn_s, if_neg (by decide), vl_d, pk_m1]
          exact ih j _ (by omega) (by omega) (by omega) (by omega) (d1 o)
        · rw [e, bn_s, if_pos rfl, vl_d, pk_m1]
          exact ih j r (by omega) (by omega) (by omega) hr (d2 o)
  unfold f_X8_leastOf
  rw [gd_p (v4 hs), cln (by omega), e3]
  exact loop 5000 hi 0 (by omega) (by omega) (Nat.le_refl _) (by omega) (Or.inl ⟨rfl, fun b b1 b2 => by omega⟩)
theorem b_leastOf {σ τ : Mem} {x : Int32} {s lo hi : Nat} (hP : PXS σ τ s lo hi) (hR : RRE σ τ) (hx : ¬ x = -1) : ∃ r, (r = 0 ∨ 256 * s + lo ≤ r) ∧ r ≤ 256 * s + hi ∧ f_X6_leastOf x s σ = some (nI r, σ) ∧ f_X8_leastOf (nI s) x τ = some (nI r, τ) := by
  have hP2 := hP
  obtain ⟨hs, h2, h3, h4, e0, e1, e2, e3, -, -⟩ := hP
  obtain ⟨r, r1, r2, r3⟩ := k_leastOf (x := x) (A := 256 * s + lo) (B := 256 * s + hi) (by omega) (by omega) (by omega) e0 e1
  obtain ⟨q, q1, q2, q3⟩ := m_leastOf (x := x) hP2 hR
  have : r = q := r3.uq q3 (fun a a1 a2 => ow_iff (hR a (by omega)) hx)
  subst this
  refine ⟨r, ?_, r1, r2, q2⟩
  rcases r3 with ⟨e, -⟩ | ⟨-, e, -⟩
  · exact Or.inl e
  · exact Or.inr e
/-! a number in a pool -/
theorem rng {x : Int32} {A B : Nat} (hA : A < 2 ^ 30) (hB : B < 2 ^ 30) (h1 : ¬ x < nI A) (h2 : ¬ nI B < x) : ∃ a, A ≤ a ∧ a ≤ B ∧ x = nI a := by
  rcases pk_ix x (n := B + 1) (by omega) with h | h | ⟨n, hn, rfl⟩
  · exact absurd (Int32.lt_of_lt_of_le h (nI_pos' (by omega))) h1
  · exact absurd (Int32.lt_of_lt_of_le (nI_lt (a := B) (b := B + 1) (by omega) (by omega)) h) h2
  · refine ⟨n, ?_, by omega, rfl⟩
    by_cases q : A ≤ n
    · exact q
    · exact absurd (nI_lt (a := n) (b := A) (by omega) (by omega)) h1
theorem k_exists {σ τ : Mem} {s lo hi : Nat} (hP : PXS σ τ s lo hi) : f_X4_exists s σ = some (1, σ) := by
  obtain ⟨hs, h2, h3, h4, e0, e1, -⟩ := hP
  unfold f_X4_exists
  rw [e0, if_neg (nI_ne0 (by omega) (by omega))]
theorem b_inPool {σ τ : Mem} {s lo hi : Nat} (hP : PXS σ τ s lo hi) (x : Int32) : (∃ a, 256 * s + lo ≤ a ∧ a ≤ 256 * s + hi ∧ x = nI a ∧ f_X4_holds s x σ = some (1, σ) ∧ f_X8_isInPool (nI s) x τ = some (1, τ)) ∨ (f_X4_holds s x σ = some (0, σ) ∧ f_X8_isInPool (nI s) x τ = some (0, τ)) := by
  have hE := k_exists hP
  obtain ⟨hs, h2, h3, h4, e0, e1, e2, e3, -, -⟩ := hP
  unfold f_X4_holds f_X8_isInPool
  rw [hE, bn_s, if_neg (by decide), vl_d, gd_p (v4 hs), gd_p (v4 hs), gd_p (v4 hs), cln (by omega), e0, e1, e2, e3, n256, if_neg (nI_nle (by omega) (by omega))]
  by_cases q : ∃ a, 256 * s + lo ≤ a ∧ a ≤ 256 * s + hi ∧ x = nI a
  · obtain ⟨a, a1, a2, rfl⟩ := q
    left
    refine ⟨a, a1, a2, rfl, ?_, ?_⟩
    · rw [if_neg (nI_nlt a1 (by omega)), if_neg (nI_nlt a2 (by omega))]
    · rw [pk_sub (by omega), if_neg (nI_nlt (by omega) (by omega)), if_neg (nI_nlt (by omega) (by omega))]
  · right
    refine ⟨?_, ?_⟩
    · by_cases c1 : x < nI (256 * s + lo)
      · rw [if_pos c1]
      · rw [if_neg c1]
        by_cases c2 : nI (256 * s + hi) < x
        · rw [if_pos c2]
        · exact absurd (rng (by omega) (by omega) c1 c2) q
    · by_cases c1 : x - nI (256 * s) < nI lo
      · rw [if_pos c1]
      · rw [if_neg c1]
        by_cases c2 : nI hi < x - nI (256 * s)
        · rw [if_pos c2]
        · obtain ⟨b, b1, b2, b3⟩ := rng (by omega) (by omega) c1 c2
          exfalso
          apply q
          refine ⟨256 * s + b, by omega, by omega, ?_⟩
          have := Int32.sub_add_cancel x (nI (256 * s))
          rw [b3, nI_add] at this
          rw [← this, Nat.add_comm]
def FRE (t : Int32) (τ : Mem) (a : Nat) : Prop := τ 807 0 a = 0 ∨ ¬ t < τ 809 0 a
theorem b_isFree {σ τ : Mem} {t : Int32} {a : Nat} (h : RC1 σ τ a) (ha : a < 1024) (ht : t = τ 801 0 0) : (FRE t τ a ∧ f_X6_isFree (nI a) t σ = some (1, σ) ∧ f_X8_isFree (nI a) τ = some (1, τ)) ∨ (¬ FRE t τ a ∧ f_X6_isFree (nI a) t σ = some (0, σ) ∧ f_X8_isFree (nI a) τ = some (0, τ)) := by
  unfold f_X6_isFree f_X8_isFree f_X6_isFree_19 f_X8_isFree_22 FRE
  rw [gd_p (vin_n ha (by decide)), gd_p (vin_n ha (by decide)), gd_p (vin_n ha (by decide)), gd_p (vin_n ha (by decide)), cln (by omega), h.1, h.2.1, ← ht]
  by_cases c1 : τ 807 0 a = 0
  · left; exact ⟨Or.inl c1, by rw [if_pos c1], by rw [if_pos c1]⟩
  · by_cases c2 : t < τ 809 0 a
    · right; exact ⟨fun w => w.elim c1 (fun w => w c2), by rw [if_neg c1, if_pos c2], by rw [if_neg c1, if_pos c2]⟩
    · left; exact ⟨Or.inr c2, by rw [if_neg c1, if_neg c2], by rw [if_neg c1, if_neg c2]⟩
