/-! the server chooses an address, on both sides -/
def OLD (F : Nat → Prop) (E : Nat → Int) (A B r : Nat) : Prop := (r = 0 ∧ ∀ a, A ≤ a → a < B → ¬ F a) ∨ (0 < r ∧ A ≤ r ∧ r < B ∧ F r ∧ ∀ a, A ≤ a → a < B → F a → E r < E a ∨ (E r = E a ∧ r ≤ a))
theorem OLD.uq {F : Nat → Prop} {E : Nat → Int} {A B r r2 : Nat} (h : OLD F E A B r) (h2 : OLD F E A B r2) : r = r2 := by
  rcases h with ⟨e, f⟩ | ⟨e0, e1, e2, e3, e4⟩ <;> rcases h2 with ⟨g, k⟩ | ⟨g0, g1, g2, g3, g4⟩
  · omega
  · exact absurd g3 (f _ g1 g2)
  · exact absurd e3 (k _ e1 e2)
  · have a := e4 r2 g1 g2 g3
    have b := g4 r e1 e2 e3
    omega
theorem OLD.up {F : Nat → Prop} {E : Nat → Int} {A a r : Nat} (h : OLD F E A a r) (h0 : 0 < a) (hA : A ≤ a) : (¬ F a → OLD F E A (a + 1) r) ∧ (F a → r = 0 → OLD F E A (a + 1) a) ∧ (F a → 0 < r → E r ≤ E a → OLD F E A (a + 1) r) ∧ (F a → 0 < r → ¬ E r ≤ E a → OLD F E A (a + 1) a) := by
  refine ⟨fun p => ?_, fun p q => ?_, fun p q w => ?_, fun p q w => ?_⟩
  · rcases h with ⟨e, f⟩ | ⟨e0, e1, e2, e3, e4⟩
    · refine Or.inl ⟨e, fun b b1 b2 => ?_⟩
      by_cases g : b = a
      · rw [g]; exact p
      · exact f b b1 (by omega)
    · refine Or.inr ⟨e0, e1, by omega, e3, fun b b1 b2 fb => ?_⟩
      by_cases g : b = a
      · rw [g] at fb; exact absurd fb p
      · exact e4 b b1 (by omega) fb
  · rcases h with ⟨e, f⟩ | ⟨e0, e1, e2, e3, e4⟩
    · refine Or.inr ⟨h0, hA, by omega, p, fun b b1 b2 fb => ?_⟩
      by_cases g : b = a
      · subst g; right; exact ⟨rfl, Nat.le_refl _⟩
      · exact absurd fb (f b b1 (by omega))
    · omega
  · rcases h with ⟨e, f⟩ | ⟨e0, e1, e2, e3, e4⟩
    · omega
    · refine Or.inr ⟨e0, e1, by omega, e3, fun b b1 b2 fb => ?_⟩
      by_cases g : b = a
      · subst g; omega
      · exact e4 b b1 (by omega) fb
  · rcases h with ⟨e, f⟩ | ⟨e0, e1, e2, e3, e4⟩
    · omega
    · refine Or.inr ⟨h0, hA, by omega, p, fun b b1 b2 fb => ?_⟩
      by_cases g : b = a
      · subst g; right; exact ⟨rfl, Nat.le_refl _⟩
      · have := e4 b b1 (by omega) fb; omega
theorem OLD.dn {F : Nat → Prop} {E : Nat → Int} {a B r : Nat} (h : OLD F E (a + 1) B r) (h0 : 0 < a) (hB : a < B) : (¬ F a → OLD F E a B r) ∧ (F a → r = 0 → OLD F E a B a) ∧ (F a → 0 < r → E r < E a → OLD F E a B r) ∧ (F a → 0 < r → ¬ E r < E a → OLD F E a B a) := by
  refine ⟨fun p => ?_, fun p q => ?_, fun p q w => ?_, fun p q w => ?_⟩
  · rcases h with ⟨e, f⟩ | ⟨e0, e1, e2, e3, e4⟩
    · refine Or.inl ⟨e, fun b b1 b2 => ?_⟩
      by_cases g : b = a
      · rw [g]; exact p
      · exact f b (by omega) (by omega)
    · refine Or.inr ⟨e0, by omega, by omega, e3, fun b b1 b2 fb => ?_⟩
      by_cases g : b = a
      · rw [g] at fb; exact absurd fb p
      · exact e4 b (by omega) (by omega) fb
  · rcases h with ⟨e, f⟩ | ⟨e0, e1, e2, e3, e4⟩
    · refine Or.inr ⟨h0, Nat.le_refl _, hB, p, fun b b1 b2 fb => ?_⟩
      by_cases g : b = a
      · subst g; right; exact ⟨rfl, Nat.le_refl _⟩
      · exact absurd fb (f b (by omega) (by omega))
    · omega
  · rcases h with ⟨e, f⟩ | ⟨e0, e1, e2, e3, e4⟩
    · omega
    · refine Or.inr ⟨e0, by omega, e2, e3, fun b b1 b2 fb => ?_⟩
      by_cases g : b = a
      · subst g; left; exact w
      · exact e4 b (by omega) (by omega) fb
  · rcases h with ⟨e, f⟩ | ⟨e0, e1, e2, e3, e4⟩
    · omega
    · refine Or.inr ⟨h0, Nat.le_refl _, hB, p, fun b b1 b2 fb => ?_⟩
      by_cases g : b = a
      · subst g; right; exact ⟨rfl, Nat.le_refl _⟩
      · have := e4 b (by omega) (by omega) fb; omega
def EE (τ : Mem) (a : Nat) : Int := (τ 809 0 a).toInt
theorem k_oldest {σ τ : Mem} {t : Int32} {s A B : Nat} (hR : RRE σ τ) (ht : t = τ 801 0 0) (hA : 1 ≤ A) (hAB : A ≤ B) (hB : B < 1024) (h0 : σ 400 s 0 = nI A) (h1 : σ 401 s 0 = nI B) : ∃ r, r ≤ B ∧ f_X6_oldestFree s t σ = some (nI r, σ) ∧ OLD (FRE t τ) (EE τ) A (B + 1) r := by
  have loop : ∀ (n a r : Nat), B + 1 - a < n → A ≤ a → a ≤ B + 1 → r ≤ B → OLD (FRE t τ) (EE τ) A a r → ∃ r2, r2 ≤ B ∧ f_X6_oldestFree_8 n s t (nI r) (nI a) σ = some (nI r2, σ) ∧ OLD (FRE t τ) (EE τ) A (B + 1) r2 := by
    intro n
    induction n with
    | zero => intro a r h; omega
    | succ n ih =>
      intro a r hn ha hb hr hl
      rw [f_X6_oldestFree_8.eq_2, h1]
      by_cases c : B < a
      · rw [if_pos (nI_lt c (by omega))]
        exact ⟨r, hr, rfl, by rw [show B + 1 = a by omega]; exact hl⟩
      · rw [if_neg (nI_nlt (by omega) (by omega))]
        obtain ⟨d1, d2, d3, d4⟩ := hl.up (by omega) ha
        unfold f_X6_oldestFree_47 f_X6_oldestFree_50
        have hRa := hR a (by omega)
        rcases b_isFree (t := t) hRa (by omega) ht with ⟨o, e, -⟩ | ⟨o, e, -⟩
        · rw [e, bn_s, if_neg (by decide)]
          by_cases r0 : r = 0
          · rw [if_pos (by rw [r0]; rfl), vl_d, nI_1]
            exact ih (a + 1) a (by omega) (by omega) (by omega) (by omega) (d2 o r0)
          · rw [if_neg (nI_ne0 (by omega) (by omega)), gd_p (vin_n (by omega) (by decide)), gd_p (vin_n (by omega) (by decide)), cln (by omega), cln (by omega), hRa.2.1, (hR r (by omega)).2.1, vl_d, nI_1]
            by_cases q : τ 809 0 r ≤ τ 809 0 a
            · rw [if_pos q]
              exact ih (a + 1) r (by omega) (by omega) (by omega) hr (d3 o (by omega) (Int32.le_iff_toInt_le.mp q))
            · rw [if_neg q, vl_d]
              exact ih (a + 1) a (by omega) (by omega) (by omega) (by omega) (d4 o (by omega) (fun w => q (Int32.le_iff_toInt_le.mpr w)))
        · rw [e, bn_s, if_pos rfl, vl_d, nI_1]
          exact ih (a + 1) r (by omega) (by omega) (by omega) hr (d1 o)
  unfold f_X6_oldestFree
  rw [h0]
  exact loop 5000 A 0 (by omega) (Nat.le_refl _) (by omega) (by omega) (Or.inl ⟨rfl, fun b b1 b2 => by omega⟩)
def NEV (τ : Mem) (a : Nat) : Prop := τ 807 0 a = 0
theorem k_choose53 {σ τ : Mem} {t : Int32} {s A B : Nat} (hR : RRE σ τ) (hA : 1 ≤ A) (hAB : A ≤ B) (hB : B < 1024) (h0 : σ 400 s 0 = nI A) (h1 : σ 401 s 0 = nI B) : ∃ r, r ≤ B ∧ f_X6_choose_47 s t σ = (if r = 0 then f_X6_oldestFree s t σ else some (nI r, σ)) ∧ LST (NEV τ) A B r := by
  have loop : ∀ (n a : Nat), B + 1 - a < n → A ≤ a → a ≤ B + 1 → (∀ b, A ≤ b → b < a → ¬ NEV τ b) → ∃ r, r ≤ B ∧ f_X6_choose_53 n s t (nI a) σ = (if r = 0 then f_X6_oldestFree s t σ else some (nI r, σ)) ∧ LST (NEV τ) A B r := by
    intro n
    induction n with
    | zero => intro a h; omega
    | succ n ih =>
      intro a hn ha hb hl
      rw [f_X6_choose_53.eq_2, h1]
      by_cases c : B < a
      · rw [if_pos (nI_lt c (by omega)), bn_id]
        exact ⟨0, by omega, by rw [if_pos rfl], Or.inl ⟨rfl, fun b b1 b2 => hl b b1 (by omega)⟩⟩
      · rw [if_neg (nI_nlt (by omega) (by omega)), gd_p (vin_n (by omega) (by decide)), cln (by omega), (hR a (by omega)).1]
        by_cases q : τ 807 0 a = 0
        · rw [if_pos q]
          exact ⟨a, by omega, by rw [if_neg (by omega)], Or.inr ⟨by omega, ha, by omega, q, hl⟩⟩
        · rw [if_neg q, vl_d, nI_1]
          refine ih (a + 1) (by omega) (by omega) (by omega) (fun b b1 b2 => ?_)
          by_cases g : b = a
          · rw [g]; exact q
          · exact hl b b1 (by omega)
  unfold f_X6_choose_47
  rw [h0]
  exact loop 5000 A (by omega) (Nat.le_refl _) (by omega) (fun b b1 b2 => by omega)
theorem m_choose41 {σ τ : Mem} {t : Int32} {s lo hi : Nat} (hP : PXS σ τ s lo hi) (hR : RRE σ τ) (ht : t = τ 801 0 0) : ∃ r r2, r ≤ 256 * s + hi ∧ r2 ≤ 256 * s + hi ∧ f_X8_choose_41 (nI s) τ = some (nI (if r = 0 then r2 else r), τ) ∧ LST (NEV τ) (256 * s + lo) (256 * s + hi) r ∧ OLD (FRE t τ) (EE τ) (256 * s + lo) (256 * s + hi + 1) r2 := by
  obtain ⟨hs, h2, h3, h4, -, -, e2, e3, -, -⟩ := hP
  have fin : ∀ r r2, r ≤ 256 * s + hi → f_X8_choose_146 (nI r) (nI r2) τ = some (nI (if r = 0 then r2 else r), τ) := by
    intro r r2 hr
    unfold f_X8_choose_146
    by_cases q : r = 0
    · rw [if_pos q, if_pos (by rw [q]; decide)]
    · rw [if_neg q, if_neg (nI_nle (by omega) (by omega))]
  have loop : ∀ (n i r r2 : Nat), i < n → lo ≤ i + 1 → i ≤ hi → r ≤ 256 * s + hi → r2 ≤ 256 * s + hi → LST (NEV τ) (256 * s + i + 1) (256 * s + hi) r → OLD (FRE t τ) (EE τ) (256 * s + i + 1) (256 * s + hi + 1) r2 → ∃ q q2, q ≤ 256 * s + hi ∧ q2 ≤ 256 * s + hi ∧ f_X8_choose_55 n (nI s) (nI r) (nI r2) (nI i) τ = some (nI (if q = 0 then q2 else q), τ) ∧ LST (NEV τ) (256 * s + lo) (256 * s + hi) q ∧ OLD (FRE t τ) (EE τ) (256 * s + lo) (256 * s + hi + 1) q2 := by
    intro n
    induction n with
    | zero => intro i r r2 h; omega
    | succ n ih =>
      intro i r r2 hn h1 h5 hr hr2 hl ho
      rw [f_X8_choose_55.eq_2, gd_p (v4 hs), cln (by omega), e2]
      by_cases c : i < lo
      · rw [if_pos (nI_lt c (by omega)), fin r r2 hr]
        exact ⟨r, r2, hr, hr2, rfl, by rw [show 256 * s + lo = 256 * s + i + 1 by omega]; exact hl, by rw [show 256 * s + lo = 256 * s + i + 1 by omega]; exact ho⟩
      · rw [if_neg (nI_nlt (by omega) (by omega)), if_neg (nI_nle (by omega) (by omega)), n256, nI_add, vl_d, gd_p (vin_n (by omega) (by decide)), cln (by omega)]
        obtain ⟨j, rfl⟩ : ∃ j, i = j + 1 := ⟨i - 1, by omega⟩
        obtain ⟨l1, l2⟩ := hl.dn (by omega) (by omega)
        obtain ⟨d1, d2, d3, d4⟩ := ho.dn (by omega) (by omega)
        have hRa := hR (256 * s + (j + 1)) (by omega)
        have mid : ∀ w, w ≤ 256 * s + hi → LST (NEV τ) (256 * s + (j + 1)) (256 * s + hi) w → ∃ q q2, q ≤ 256 * s + hi ∧ q2 ≤ 256 * s + hi ∧ f_X8_choose_98 (f_X8_choose_55 n) (nI s) (nI r2) (nI (j + 1)) (nI (256 * s + (j + 1))) (nI w) τ = some (nI (if q = 0 then q2 else q), τ) ∧ LST (NEV τ) (256 * s + lo) (256 * s + hi) q ∧ OLD (FRE t τ) (EE τ) (256 * s + lo) (256 * s + hi + 1) q2 := by
          intro w hw hlw
          unfold f_X8_choose_98 f_X8_choose_136 f_X8_choose_131 f_X8_choose_138
          rcases b_isFree (t := t) hRa (by omega) ht with ⟨o, -, e⟩ | ⟨o, -, e⟩
          · rw [e, bn_s, if_neg (by decide)]
            by_cases r0 : r2 = 0
            · rw [if_pos (by rw [r0]; rfl), vl_d, pk_m1]
              exact ih j w _ (by omega) (by omega) (by omega) hw (by omega) hlw (d2 o r0)
            · rw [if_neg (nI_ne0 (by omega) (by omega)), gd_p (vin_n (by omega) (by decide)), gd_p (vin_n (by omega) (by decide)), cln (by omega), cln (by omega), vl_d, pk_m1]
              by_cases q : τ 809 0 r2 < τ 809 0 (256 * s + (j + 1))
              · rw [if_pos q]
                exact ih j w r2 (by omega) (by omega) (by omega) hw hr2 hlw (d3 o (by omega) (Int32.lt_iff_toInt_lt.mp q))
              · rw [if_neg q, vl_d]
                exact ih j w _ (by omega) (by omega) (by omega) hw (by omega) hlw (d4 o (by omega) (fun w => q (Int32.lt_iff_toInt_lt.mpr w)))
          · rw [e, bn_s, if_pos rfl, vl_d, pk_m1]
            exact ih j w r2 (by omega) (by omega) (by omega) hw hr2 hlw (d1 o)
        by_cases q : τ 807 0 (256 * s + (j + 1)) = 0
        · rw [if_pos q]
          exact mid _ (by omega) (l1 q)
        · rw [if_neg q]
          exact mid r hr (l2 q)
  unfold f_X8_choose_41
  rw [gd_p (v4 hs), cln (by omega), e3]
  exact loop 5000 hi 0 0 (by omega) (by omega) (Nat.le_refl _) (by omega) (by omega) (Or.inl ⟨rfl, fun b b1 b2 => by omega⟩) (Or.inl ⟨rfl, fun b b1 b2 => by omega⟩)
theorem b_choose47 {σ τ : Mem} {t : Int32} {s lo hi : Nat} (hP : PXS σ τ s lo hi) (hR : RRE σ τ) (ht : t = τ 801 0 0) : ∃ r, (r = 0 ∨ 256 * s + lo ≤ r) ∧ r ≤ 256 * s + hi ∧ f_X6_choose_47 s t σ = some (nI r, σ) ∧ f_X8_choose_41 (nI s) τ = some (nI r, τ) := by
  have hP2 := hP
  obtain ⟨hs, h2, h3, h4, e0, e1, e2, e3, -, -⟩ := hP
  obtain ⟨r, r1, r2, r3⟩ := k_choose53 (t := t) (A := 256 * s + lo) (B := 256 * s + hi) hR (by omega) (by omega) (by omega) e0 e1
  obtain ⟨w, w1, w2, w3⟩ := k_oldest (t := t) (A := 256 * s + lo) (B := 256 * s + hi) hR ht (by omega) (by omega) (by omega) e0 e1
  obtain ⟨q, q2, q3, q4, q5, q6, q7⟩ := m_choose41 hP2 hR ht
  have er : r = q := r3.uq q6 (fun a _ _ => Iff.rfl)
  have ew : w = q2 := w3.uq q7
  subst er ew
  rw [r2, q5, w2]
  by_cases c : r = 0
  · rw [if_pos c, if_pos c]
    refine ⟨w, ?_, w1, rfl, rfl⟩
    rcases w3 with ⟨e, -⟩ | ⟨-, e, -⟩
    · exact Or.inl e
    · exact Or.inr e
  · rw [if_neg c, if_neg c]
    refine ⟨r, ?_, r1, rfl, rfl⟩
    rcases r3 with ⟨e, -⟩ | ⟨-, e, -⟩
    · exact Or.inl e
    · exact Or.inr e
theorem b_choose {σ τ : Mem} {x t : Int32} {s lo hi : Nat} (hP : PXS σ τ s lo hi) (hR : RRE σ τ) (ht : t = τ 801 0 0) (hx : ¬ x = -1) (h6 : σ 206 0 0 = x) (h8 : σ 208 0 0 = τ 834 0 0) : ∃ r, (r = 0 ∨ 256 * s + lo ≤ r) ∧ r ≤ 256 * s + hi ∧ f_X6_choose 0 s t σ = some (nI r, σ) ∧ f_X8_choose (nI s) x τ = some (nI r, τ) := by
  have hP2 := hP
  obtain ⟨hs, h2, h3, h4, -⟩ := hP
  obtain ⟨r, r1, r2, r3, r4⟩ := b_leastOf (x := x) hP2 hR hx
  unfold f_X6_choose f_X8_choose
  rw [h6, r3, r4, bn_s, bn_s, h8]
  have L := b_choose47 hP2 hR ht
  by_cases c : r = 0
  · rw [if_pos (show nI r = 0 by rw [c]; rfl), if_pos (show nI r ≤ 0 by rw [c]; decide)]
    rcases b_inPool hP2 (τ 834 0 0) with ⟨a, a1, a2, a3, a4, a5⟩ | ⟨a4, a5⟩
    · rw [a4, a5, bn_s, bn_s, if_neg (by decide), if_neg (by decide), h8, a3]
      rcases b_isFree (t := t) (hR a (by omega)) (by omega) ht with ⟨o, e, e'⟩ | ⟨o, e, e'⟩
      · rw [e, e', bn_s, bn_s, if_neg (by decide), if_neg (by decide), h8, a3]
        exact ⟨a, Or.inr a1, a2, rfl, rfl⟩
      · rw [e, e', bn_s, bn_s, if_pos rfl, if_pos rfl]
        exact L
    · rw [a4, a5, bn_s, bn_s, if_pos rfl, if_pos rfl]
      exact L
  · rw [if_neg (nI_ne0 (by omega) (by omega)), if_neg (nI_nle (by omega) (by omega))]
    exact ⟨r, r1, r2, rfl, rfl⟩
