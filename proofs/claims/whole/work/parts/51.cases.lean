/-! the law's cases -/
def INV (σ : Mem) : Prop := ∃ Q T, RST σ σ ∧ RQT σ σ Q T
def MH8 (τ τ' : Mem) : Prop := ∀ f, f < 800 → τ' f = τ f
def REL (σ τ σ' τ' : Mem) : Prop := RST σ' τ' ∧ (∃ Q' T', RQT σ' τ' Q' T') ∧ CLO σ σ' ∧ MH8 τ τ'
theorem RST.z {σ τ : Mem} {x : Int32} (h : RST σ τ) : RST σ (up τ 800 0 0 x) := h.mv (fun _ _ => rfl) (fun f a b => up_fn (by omega))
theorem RQT.z {σ τ : Mem} {Q : List Pk} {T : List Int32} {x : Int32} (h : RQT σ τ Q T) : RQT σ (up τ 800 0 0 x) Q T := h.mv (fun _ _ => rfl) (fun _ _ _ _ => rfl) (fun f a => up_fn (by omega))
theorem REL.thr {σ τ : Mem} {Q : List Pk} {T : List Int32} (x : Int32) (h : RST σ τ) (hq : RQT σ τ Q T) : REL σ τ σ (up τ 800 0 0 x) := ⟨h.z, ⟨Q, T, hq.z⟩, fun _ _ => rfl, fun f a => up_fn (by omega)⟩
theorem REL.of {σ τ σ' τ' : Mem} {T : List Int32} {x : Int32} (h : RUN2 σ (up τ 800 0 0 x) σ' τ' T) : REL σ τ σ' τ' := by
  obtain ⟨h1, ⟨Q, h2⟩, h3, h4⟩ := h
  exact ⟨h1, ⟨Q, T, h2⟩, h3, fun f a => (h4 f (by omega)).trans (up_fn (by omega))⟩
theorem sync {κ κ' : Type} {σ : Mem} (PF : κ → Mem → Prop) (PG : Mem → κ' → Mem → Prop) (Rv : κ → κ' → Mem → Prop) (uq : ∀ a s a' s', PF a s → PF a' s' → a = a' ∧ s = s') (hI : INV σ) (H : ∀ τ Q T, RST σ τ → RQT σ τ Q T → ∃ a b σ' τ', PF a σ' ∧ PG τ b τ' ∧ Rv a b τ' ∧ REL σ τ σ' τ') : ∃ a b σ' τ', PF a σ' ∧ PG σ' b τ' ∧ Rv a b τ' ∧ INV τ' := by
  obtain ⟨Q, T, h, hq⟩ := hI
  obtain ⟨a, b, σ1, τ1, f1, g1, v1, r1, r2, r3, r4⟩ := H σ Q T h hq
  obtain ⟨a', b', σ2, τ2, f2, g2, v2, k1, ⟨Q', T', k2⟩, k3, k4⟩ := H σ1 Q T (h.mv (fun _ _ => rfl) (fun f x y => r3 f (by omega))) (hq.mv (fun _ _ => rfl) (fun _ _ _ _ => rfl) (fun f x => r3 f (by omega)))
  obtain ⟨rfl, rfl⟩ := uq _ _ _ _ f1 f2
  exact ⟨a, b', σ1, τ2, f1, g2, v2, Q', T', k1.mv (fun f x => k4 f (by omega)) (fun _ _ _ => rfl), k2.mv (fun f x => k4 f (by omega)) (fun f j x y => by rw [k4 f (by omega)]) (fun _ _ => rfl)⟩
theorem uqT {x : Option (Int32 × Int32 × Mem)} (a : Int32 × Int32) (s : Mem) (a' : Int32 × Int32) (s' : Mem) (h : x = some (a.1, a.2, s)) (h' : x = some (a'.1, a'.2, s')) : a = a' ∧ s = s' := by
  have e := Option.some.inj (h.symm.trans h')
  obtain ⟨a1, a2⟩ := a
  obtain ⟨b1, b2⟩ := a'
  injection e with e1 e2
  injection e2 with e2 e3
  have e1 : a1 = b1 := e1
  have e2 : a2 = b2 := e2
  subst e1 e2
  exact ⟨rfl, e3⟩
theorem uqM {x : Option Mem} (a : Unit) (s : Mem) (a' : Unit) (s' : Mem) (h : x = some s) (h' : x = some s') : a = a' ∧ s = s' := ⟨rfl, Option.some.inj (h.symm.trans h')⟩
theorem uqN {x : Option (Int32 × Mem)} (a : Int32) (s : Mem) (a' : Int32) (s' : Mem) (h : x = some (a, s)) (h' : x = some (a', s')) : a = a' ∧ s = s' := by
  have e := Option.some.inj (h.symm.trans h')
  injection e with e1 e2
  exact ⟨e1, e2⟩
theorem lg_self (x : Int64) : lg_cmp x x = 0 := by
  unfold lg_cmp
  rw [if_neg (fun h => Int64.lt_irrefl h), if_pos rfl]
/-- pool -/
theorem sh8 {s : Nat} (hs : s < 4) (x : Nat) : (nI s <<< ((8 : Int32) &&& 31)) + nI x = nI (256 * s + x) := by
  have : nI s <<< ((8 : Int32) &&& 31) = nI (256 * s) := by
    rcases (show s = 0 ∨ s = 1 ∨ s = 2 ∨ s = 3 by omega) with rfl | rfl | rfl | rfl <;> rfl
  rw [this, nI_add]
theorem h_pool {σ τ : Mem} {Q : List Pk} {T : List Int32} (a1 a2 a3 a4 : Int32) (h : RST σ τ) (hq : RQT σ τ Q T) : ∃ (a : Int32 × Int32) (_ : Unit) (σ' τ' : Mem), f_X7_pool a1 a2 a3 a4 σ = some (a.1, a.2, σ') ∧ f_X8_pool a1 a2 a3 a4 τ = some τ' ∧ ((a.1 = 0 ∧ τ' 800 0 0 = 0) ∨ (a.1 = 1 ∧ τ' 800 0 0 = 1) ∨ (a.1 = 2 ∧ τ' 800 0 0 = 2)) ∧ REL σ τ σ' τ' := by
  have bad : ∃ (a : Int32 × Int32) (_ : Unit) (σ' τ' : Mem), f_X7_pool_47 σ = some (a.1, a.2, σ') ∧ f_X8_pool_44 a1 a2 a3 a4 τ = some τ' ∧ ((a.1 = 0 ∧ τ' 800 0 0 = 0) ∨ (a.1 = 1 ∧ τ' 800 0 0 = 1) ∨ (a.1 = 2 ∧ τ' 800 0 0 = 2)) ∧ REL σ τ σ' τ' := by
    unfold f_X7_pool_47 f_X8_pool_44 f_X8_pool_49
    rw [vl_d, up_at, if_neg (by decide)]
    exact ⟨(2, 0), (), _, _, rfl, rfl, Or.inr (Or.inr ⟨rfl, up_at _ _ _ _ _⟩), REL.thr 2 h hq⟩
  unfold f_X7_pool f_X8_pool
  rcases sub_cases a1 with ⟨s, hs, rfl, e1, e2⟩ | ⟨e1, e2⟩
  · rw [e1, e2, bn_s, bn_s, i10, i10]
    by_cases c1 : a2 < 2
    · rw [if_pos c1, if_pos c1]; exact bad
    rw [if_neg c1, if_neg c1]
    by_cases c2 : a3 < a2
    · rw [if_pos c2, if_pos c2]; exact bad
    rw [if_neg c2, if_neg c2]
    by_cases c3 : 250 < a3
    · rw [if_pos c3, if_pos c3]; exact bad
    rw [if_neg c3, if_neg c3]
    by_cases c4 : a4 < 8
    · rw [if_pos c4, if_pos c4]; exact bad
    rw [if_neg c4, if_neg c4]
    by_cases c5 : a4 ≤ 10000
    · rw [if_pos c5, if_pos c5, gd_p (v4 hs), cln (by omega)]
      obtain ⟨lo, l1, l2, rfl⟩ := rng (A := 2) (B := 250) (by decide) (by decide) c1 (fun w => by
        have x1 : a2.toInt ≤ a3.toInt := Int.not_lt.mp (fun w => c2 (Int32.lt_iff_toInt_lt.mpr w))
        have x2 : (250 : Int) < a2.toInt := Int32.lt_iff_toInt_lt.mp w
        exact c3 (Int32.lt_iff_toInt_lt.mpr (show (250 : Int) < a3.toInt by omega)))
      obtain ⟨hi, h1, h2, rfl⟩ := rng (A := lo) (B := 250) (by omega) (by decide) c2 c3
      unfold f_X4_set f_X8_pool_49
      rw [vl_d, vl_d, vl_d, bv_s, vl_d, up_at, if_pos rfl, gd_p (v4 hs), vl_d, gd_p (v4 hs), vl_d, gd_p (v4 hs), vl_d, cln (by omega), sh8 hs, sh8 hs]
      have A : Sm [400, 401, 402] σ (up (up (up σ 400 s 0 (nI (256 * s + lo))) 401 s 0 (nI (256 * s + hi))) 402 s 0 a4) := Sm.up (by decide) (Sm.up (by decide) (Sm.up (by decide) Sm.rf))
      have B : Sm [800, 802, 803, 804] τ (up (up (up (up τ 800 0 0 0) 802 0 s (nI lo)) 803 0 s (nI hi)) 804 0 s a4) := Sm.up (by decide) (Sm.up (by decide) (Sm.up (by decide) (Sm.up (by decide) Sm.rf)))
      refine ⟨(0, 0), (), _, _, rfl, rfl, Or.inl ⟨rfl, by rw [up_fn (by decide), up_fn (by decide), up_fn (by decide), up_at]⟩, ?_, ⟨Q, T, hq.mv (fun f x => A f (by simp; omega)) (fun f j x y => by rw [A f (by simp; omega)]) (fun f x => B f (by simp; omega))⟩, fun f x => A f (by simp; omega), fun f x => B f (by simp; omega)⟩
      obtain ⟨k1, k2, k3, k4, k5, k6, k7, k8⟩ := h
      refine ⟨?_, fun c hc => ?_, k3.mv (fun f x y => A f (by simp; omega)) (fun f x y => B f (by simp; omega)), ?_, fun n hn => ?_, ?_, k7.mv (fun f x y => A f (by simp; omega)) (fun f x y => B f (by simp; omega)), k8.mv (A _ (by decide)) (B _ (by decide)) (B _ (by decide))⟩
      · rw [A 708 (by decide), B 801 (by decide)]; exact k1
      · unfold cIV
        rw [A 100 (by decide), A 101 (by decide), A 102 (by decide), A 103 (by decide), A 108 (by decide), A 110 (by decide), A 111 (by decide)]
        exact k2 c hc
      · intro s' hs'
        by_cases q : s' = s
        · subst q
          right
          refine ⟨lo, hi, l1, h1, h2, ?_, ?_, ?_, ?_, ?_, ?_⟩
          · rw [up_fn (by decide), up_fn (by decide), up_at]
          · rw [up_fn (by decide), up_at]
          · rw [up_fn (by decide), up_fn (by decide), up_at]
          · rw [up_fn (by decide), up_at]
          · rw [up_at, up_at]
          · rw [up_at]; intro q; exact c4 (by rw [q]; decide)
        · have e : ∀ f, up (up (up σ 400 s 0 (nI (256 * s + lo))) 401 s 0 (nI (256 * s + hi))) 402 s 0 a4 f s' = σ f s' := fun f => by rw [up_fj q, up_fj q, up_fj q]
          have e' : ∀ f, 800 < f → up (up (up (up τ 800 0 0 0) 802 0 s (nI lo)) 803 0 s (nI hi)) 804 0 s a4 f 0 s' = τ f 0 s' := fun f hf => by
            rw [up_rd, if_neg (fun w => q w.2.2), up_rd, if_neg (fun w => q w.2.2), up_rd, if_neg (fun w => q w.2.2), up_rd, if_neg (fun w => by omega)]
          rw [e, e, e, e' 802 (by omega), e' 803 (by omega), e' 804 (by omega)]
          exact k4 s' hs'
      · rw [A 703 (by decide), B 805 (by decide)]; exact k5 n hn
      · unfold RDN
        rw [A 600 (by decide), B 806 (by decide)]; exact k6
    · rw [if_neg c5, if_neg c5]; exact bad
  · rw [e1, e2, bn_s, bn_s, i00, i00]
    unfold f_X8_pool_49
    rw [vl_d, up_at, if_neg (by decide)]
    exact ⟨(1, 0), (), _, _, rfl, rfl, Or.inr (Or.inl ⟨rfl, up_at _ _ _ _ _⟩), REL.thr 1 h hq⟩
theorem s_0 {σ : Mem} {o : Nat → Int64} (a1 a2 a3 a4 : Int32) (hI : INV σ) : ∃ r, lc_0 a1 a2 a3 a4 σ o = some r ∧ INV r.1 := by
  obtain ⟨a, -, σ', τ', e1, e2, rv, hI'⟩ := sync (fun (a : Int32 × Int32) (s : Mem) => f_X7_pool a1 a2 a3 a4 σ = some (a.1, a.2, s)) (fun τ (_ : Unit) τ' => f_X8_pool a1 a2 a3 a4 τ = some τ') _ uqT hI (fun τ Q T h hq => h_pool a1 a2 a3 a4 h hq)
  unfold lc_0 f_L_pool f_X8_thrown
  rw [e1, bt_s]
  dsimp only
  refine ⟨(τ', o), ?_, hI'⟩
  rcases rv with ⟨c, t⟩ | ⟨c, t⟩ | ⟨c, t⟩
  · rw [if_pos c, bl_s, e2, bv_s, bn_s, if_pos t]
  · rw [c, if_neg (by decide), if_pos rfl, bl_s, e2, bv_s, bn_s, if_pos t]
  · rw [c, if_neg (by decide), if_neg (by decide), if_pos rfl, bl_s, e2, bv_s, bn_s, if_pos t]
/-- join -/
theorem h_join {σ τ : Mem} {Q : List Pk} {T : List Int32} (a1 a2 : Int32) (h : RST σ τ) (hq : RQT σ τ Q T) : ∃ (a : Int32 × Int32) (_ : Unit) (σ' τ' : Mem), f_X7_join a1 a2 σ = some (a.1, a.2, σ') ∧ f_X8_join a1 a2 τ = some τ' ∧ ((a.1 = 0 ∧ τ' 800 0 0 = 0) ∨ (a.1 = 1 ∧ τ' 800 0 0 = 1) ∨ (a.1 = 3 ∧ τ' 800 0 0 = 2)) ∧ REL σ τ σ' τ' := by
  have bad : ∃ (a : Int32 × Int32) (_ : Unit) (σ' τ' : Mem), f_X7_join_14 σ = some (a.1, a.2, σ') ∧ f_X8_join_15 a1 a2 τ = some τ' ∧ ((a.1 = 0 ∧ τ' 800 0 0 = 0) ∨ (a.1 = 1 ∧ τ' 800 0 0 = 1) ∨ (a.1 = 3 ∧ τ' 800 0 0 = 2)) ∧ REL σ τ σ' τ' := by
    unfold f_X7_join_14 f_X8_join_15 f_X8_join_33
    rw [vl_d, up_at, if_neg (by decide)]
    exact ⟨(1, 0), (), _, _, rfl, rfl, Or.inr (Or.inl ⟨rfl, up_at _ _ _ _ _⟩), REL.thr 1 h hq⟩
  unfold f_X7_join f_X8_join
  rcases cli_cases a1 with ⟨c, hc, rfl, e1, e2⟩ | ⟨e1, e2⟩
  · rw [e1, e2, bn_s, bn_s, i10, i10]
    rcases sub_cases a2 with ⟨s, hs, e0, f1, f2⟩ | ⟨f1, f2⟩
    · rw [f1, f2, bn_s, bn_s, i10, i10, gd_p (v12 hc), gd_p (v12 hc), gd_p (v12 hc), cln (by omega), RQ_at h.2.2.1 (f := 101) (g := 812) (by decide) hc]
      by_cases c1 : σ 101 c 0 = 0
      · rw [if_pos c1, if_pos c1]
        obtain ⟨r, σ1, τ1, z1, z2, z3⟩ := b_again (x := a2) (t := σ 708 0 0) hc (h.2.1 c hc).1 h.2.2.1 h.1 hq.2.1 (by rw [e0]; rcases (show s = 0 ∨ s = 1 ∨ s = 2 ∨ s = 3 by omega) with rfl | rfl | rfl | rfl; { exact Or.inl rfl }; { exact Or.inr (Or.inl rfl) }; { exact Or.inr (Or.inr (Or.inl rfl)) }; { exact Or.inr (Or.inr (Or.inr rfl)) })
        obtain ⟨σ2, Q', y1, y2, y3, y4, y5⟩ := end_client hc h.z hq.z z3
        rw [z1, bn_s, y1, bv_s, z2]
        exact ⟨(0, 0), (), _, _, rfl, rfl, Or.inl ⟨rfl, by rw [y5 800 (by omega), up_at]⟩, REL.of ⟨y2, ⟨Q', y3⟩, y4, y5⟩⟩
      · rw [if_neg c1, if_neg c1]
        unfold f_X8_join_33
        rw [vl_d, up_at, if_neg (by decide)]
        exact ⟨(3, 0), (), _, _, rfl, rfl, Or.inr (Or.inr ⟨rfl, up_at _ _ _ _ _⟩), REL.thr 2 h hq⟩
    · rw [f1, f2, bn_s, bn_s, i00, i00]; exact bad
  · rw [e1, e2, bn_s, bn_s, i00, i00]; exact bad
theorem s_1 {σ : Mem} {o : Nat → Int64} (a1 a2 a3 a4 : Int32) (hI : INV σ) : ∃ r, lc_1 a1 a2 a3 a4 σ o = some r ∧ INV r.1 := by
  obtain ⟨a, -, σ', τ', e1, e2, rv, hI'⟩ := sync (fun (a : Int32 × Int32) (s : Mem) => f_X7_join a1 a2 σ = some (a.1, a.2, s)) (fun τ (_ : Unit) τ' => f_X8_join a1 a2 τ = some τ') _ uqT hI (fun τ Q T h hq => h_join a1 a2 h hq)
  unfold lc_1 f_L_join f_X8_thrown
  rw [e1, bt_s]
  dsimp only
  refine ⟨(τ', o), ?_, hI'⟩
  rcases rv with ⟨c, t⟩ | ⟨c, t⟩ | ⟨c, t⟩
  · rw [if_pos c, bl_s, e2, bv_s, bn_s, if_pos t]
  · rw [c, if_neg (by decide), if_pos rfl, bl_s, e2, bv_s, bn_s, if_pos t]
  · rw [c, if_neg (by decide), if_neg (by decide), if_pos rfl, bl_s, e2, bv_s, bn_s, if_pos t]
/-- off -/
theorem h_off {σ τ : Mem} {Q : List Pk} {T : List Int32} (a1 : Int32) (h : RST σ τ) (hq : RQT σ τ Q T) : ∃ (a : Int32 × Int32) (_ : Unit) (σ' τ' : Mem), f_X7_off a1 σ = some (a.1, a.2, σ') ∧ f_X8_off a1 τ = some τ' ∧ ((a.1 = 0 ∧ τ' 800 0 0 = 0) ∨ (a.1 = 1 ∧ τ' 800 0 0 = 1) ∨ (a.1 = 3 ∧ τ' 800 0 0 = 2)) ∧ REL σ τ σ' τ' := by
  unfold f_X7_off f_X8_off f_X8_off_26
  rcases cli_cases a1 with ⟨c, hc, rfl, e1, e2⟩ | ⟨e1, e2⟩
  · rw [e1, e2, bn_s, bn_s, i10, i10, gd_p (v12 hc), gd_p (v12 hc), gd_p (v12 hc), cln (by omega), RQ_at h.2.2.1 (f := 101) (g := 812) (by decide) hc]
    by_cases c1 : σ 101 c 0 = 0
    · rw [if_pos c1, if_pos c1, vl_d, up_at, if_neg (by decide)]
      exact ⟨(3, 0), (), _, _, rfl, rfl, Or.inr (Or.inr ⟨rfl, up_at _ _ _ _ _⟩), REL.thr 2 h hq⟩
    · rw [if_neg c1, if_neg c1, vl_d, vl_d, up_at, if_pos rfl, gd_p (v12 hc), vl_d]
      have o : OPR c (-1) Q σ (up τ 800 0 0 0) (up σ 101 c 0 0) (up (up τ 800 0 0 0) 812 0 c 0) := opr_id (FC.uc (by decide) (by decide) FC.rf) (Sm.up (by decide) Sm.rf) (REQ.up (by decide) h.z.2.2.1) (cIV_of (m := 0) (s := σ 102 c 0) (a := σ 103 c 0) (tr := σ 108 c 0) (o := σ 110 c 0) (r := σ 111 c 0) ⟨(h.2.1 c hc).2.1, fun e => by rcases e with e | e | e <;> exact absurd e (by decide), fun e => absurd e (by decide), fun e => absurd e (by decide)⟩ (by rw [up_at]) (by rw [up_fn (by decide)]) (by rw [up_fn (by decide)]) (by rw [up_fn (by decide)]) (by rw [up_fn (by decide)]) (by rw [up_fn (by decide)])) hq.z.2.1
      refine ⟨(0, 0), (), _, _, rfl, rfl, Or.inl ⟨rfl, by rw [up_fn (by decide), up_at]⟩, rst_client hc h.z o, ⟨Q, T, hq.mv (fun f x => up_fn (by omega)) (fun f j x y => by rw [up_fn (by omega)]) (fun f x => by rw [up_fn (by omega), up_fn (by omega)])⟩, fun f x => up_fn (by omega), fun f x => by rw [up_fn (by omega), up_fn (by omega)]⟩
  · rw [e1, e2, bn_s, bn_s, i00, i00, vl_d, up_at, if_neg (by decide)]
    exact ⟨(1, 0), (), _, _, rfl, rfl, Or.inr (Or.inl ⟨rfl, up_at _ _ _ _ _⟩), REL.thr 1 h hq⟩
theorem s_2 {σ : Mem} {o : Nat → Int64} (a1 a2 a3 a4 : Int32) (hI : INV σ) : ∃ r, lc_2 a1 a2 a3 a4 σ o = some r ∧ INV r.1 := by
  obtain ⟨a, -, σ', τ', e1, e2, rv, hI'⟩ := sync (fun (a : Int32 × Int32) (s : Mem) => f_X7_off a1 σ = some (a.1, a.2, s)) (fun τ (_ : Unit) τ' => f_X8_off a1 τ = some τ') _ uqT hI (fun τ Q T h hq => h_off a1 h hq)
  unfold lc_2 f_L_off f_X8_thrown
  rw [e1, bt_s]
  dsimp only
  refine ⟨(τ', o), ?_, hI'⟩
  rcases rv with ⟨c, t⟩ | ⟨c, t⟩ | ⟨c, t⟩
  · rw [if_pos c, bl_s, e2, bv_s, bn_s, if_pos t]
  · rw [c, if_neg (by decide), if_pos rfl, bl_s, e2, bv_s, bn_s, if_pos t]
  · rw [c, if_neg (by decide), if_neg (by decide), if_pos rfl, bl_s, e2, bv_s, bn_s, if_pos t]
/-- leave -/
theorem h_leave {σ τ : Mem} {Q : List Pk} {T : List Int32} (a1 : Int32) (h : RST σ τ) (hq : RQT σ τ Q T) : ∃ (a : Int32 × Int32) (_ : Unit) (σ' τ' : Mem), f_X7_leave a1 σ = some (a.1, a.2, σ') ∧ f_X8_leave a1 τ = some τ' ∧ ((a.1 = 0 ∧ τ' 800 0 0 = 0) ∨ (a.1 = 1 ∧ τ' 800 0 0 = 1) ∨ (a.1 = 3 ∧ τ' 800 0 0 = 2)) ∧ REL σ τ σ' τ' := by
  unfold f_X7_leave f_X8_leave
  rcases cli_cases a1 with ⟨c, hc, rfl, e1, e2⟩ | ⟨e1, e2⟩
  · rw [e1, e2, bn_s, bn_s, i10, i10, gd_p (v12 hc), gd_p (v12 hc), gd_p (v12 hc), cln (by omega), RQ_at h.2.2.1 (f := 101) (g := 812) (by decide) hc]
    by_cases c1 : σ 101 c 0 = 0
    · rw [if_pos c1, if_pos c1]
      unfold f_X8_leave_26
      rw [vl_d, up_at, if_neg (by decide)]
      exact ⟨(3, 0), (), _, _, rfl, rfl, Or.inr (Or.inr ⟨rfl, up_at _ _ _ _ _⟩), REL.thr 2 h hq⟩
    · rw [if_neg c1, if_neg c1]
      obtain ⟨r, σ1, τ1, z1, z2, z3⟩ := b_goAway (t := σ 708 0 0) hc (h.2.1 c hc).1 h.2.2.1 h.1 hq.2.1 (h.2.1 c hc).2
      obtain ⟨σ2, Q', y1, y2, y3, y4, y5⟩ := end_client hc h.z hq.z z3
      rw [z1, bn_s, y1, bv_s, z2]
      exact ⟨(0, 0), (), _, _, rfl, rfl, Or.inl ⟨rfl, by rw [y5 800 (by omega), up_at]⟩, REL.of ⟨y2, ⟨Q', y3⟩, y4, y5⟩⟩
  · rw [e1, e2, bn_s, bn_s, i00, i00]
    unfold f_X8_leave_26
    rw [vl_d, up_at, if_neg (by decide)]
    exact ⟨(1, 0), (), _, _, rfl, rfl, Or.inr (Or.inl ⟨rfl, up_at _ _ _ _ _⟩), REL.thr 1 h hq⟩
theorem s_3 {σ : Mem} {o : Nat → Int64} (a1 a2 a3 a4 : Int32) (hI : INV σ) : ∃ r, lc_3 a1 a2 a3 a4 σ o = some r ∧ INV r.1 := by
  obtain ⟨a, -, σ', τ', e1, e2, rv, hI'⟩ := sync (fun (a : Int32 × Int32) (s : Mem) => f_X7_leave a1 σ = some (a.1, a.2, s)) (fun τ (_ : Unit) τ' => f_X8_leave a1 τ = some τ') _ uqT hI (fun τ Q T h hq => h_leave a1 h hq)
  unfold lc_3 f_L_leave f_X8_thrown
  rw [e1, bt_s]
  dsimp only
  refine ⟨(τ', o), ?_, hI'⟩
  rcases rv with ⟨c, t⟩ | ⟨c, t⟩ | ⟨c, t⟩
  · rw [if_pos c, bl_s, e2, bv_s, bn_s, if_pos t]
  · rw [c, if_neg (by decide), if_pos rfl, bl_s, e2, bv_s, bn_s, if_pos t]
  · rw [c, if_neg (by decide), if_neg (by decide), if_pos rfl, bl_s, e2, bv_s, bn_s, if_pos t]
