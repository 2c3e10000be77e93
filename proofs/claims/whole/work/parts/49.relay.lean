/-! a relay passes on, on both sides -/
theorem gset {L : List Int32} {i k : Nat} {x : Int32} (hi : i < L.length) : (L.set i x).getD k 0 = if k = i then x else L.getD k 0 := by
  rw [List.getD_eq_getElem?_getD, List.getD_eq_getElem?_getD, List.getElem?_set]
  by_cases q : k = i
  · rw [if_pos q, if_pos q.symm, if_pos hi]; rfl
  · rw [if_neg q, if_neg (fun w => q w.symm)]
theorem BL.set {σ : Mem} {j i : Nat} {L : List Int32} {x : Int32} (h : BL σ j L) (hi : i < L.length) : BL (up σ 0 j i x) j (L.set i x) := by
  refine ⟨by rw [up_fn (by decide), List.length_set]; exact h.1, fun k hk => ?_⟩
  rw [List.length_set] at hk
  rw [gset hi, up_rd]
  by_cases q : k = i
  · rw [if_pos ⟨rfl, rfl, q⟩, if_pos q]
  · rw [if_neg (fun w => q w.2.2), if_neg q]; exact h.2 k hk
theorem ML.set {τ : Mem} {i : Nat} {L : List Int32} {x : Int32} (h : ML τ L) (hi : i < L.length) : ML (up τ 829 0 i x) (L.set i x) := by
  refine ⟨by rw [up_fn (by decide), List.length_set]; exact h.1, fun k hk => ?_⟩
  rw [List.length_set] at hk
  rw [gset hi, up_rd]
  by_cases q : k = i
  · rw [if_pos ⟨rfl, rfl, q⟩, if_pos q]
  · rw [if_neg (fun w => q w.2.2), if_neg q]; exact h.2 k hk
theorem BY.set {L : List Int32} {i : Nat} {x : Int32} (h : BY L) (hi : i < L.length) (hx : ∃ n, n < 256 ∧ x = nI n) : BY (L.set i x) := by
  intro k
  rw [gset hi]
  split
  · exact hx
  · exact h k
def S4r (L : List Int32) (v : Int32) : List Int32 := (((L.set 14 (ushr v 24 &&& 255)).set 15 (ushr v 16 &&& 255)).set 16 (ushr v 8 &&& 255)).set 17 (ushr v 0 &&& 255)
theorem S4_len (L : List Int32) (v : Int32) : (S4r L v).length = L.length := by unfold S4r; rw [List.length_set, List.length_set, List.length_set, List.length_set]
theorem S4_by {L : List Int32} {v : Int32} (h : BY L) (hl : 19 ≤ L.length) : BY (S4r L v) := by
  unfold S4r
  refine BY.set (BY.set (BY.set (BY.set h (by omega) (bys _)) ?_ (bys _)) ?_ (bys _)) ?_ (bys _)
  · rw [List.length_set]; omega
  · rw [List.length_set, List.length_set]; omega
  · rw [List.length_set, List.length_set, List.length_set]; omega
theorem k_setNumber {σ : Mem} {L : List Int32} {v : Int32} (h : BL σ 61 L) (hl : 19 ≤ L.length) : ∃ σ', f_X0_setNumber 61 14 v σ = some σ' ∧ BL σ' 61 (S4r L v) ∧ FB 61 σ σ' := by
  unfold f_X0_setNumber
  rw [show (5000 : Nat) = 4995 + 1 + 1 + 1 + 1 + 1 from rfl, f_X0_setNumber_2.eq_2, if_neg (by decide), if_neg (by decide), gd_p (by decide), vl_d, vl_d, f_X0_setNumber_2.eq_2, if_neg (by decide), if_neg (by decide), gd_p (by decide), vl_d, vl_d, f_X0_setNumber_2.eq_2, if_neg (by decide), if_neg (by decide), gd_p (by decide), vl_d, vl_d, f_X0_setNumber_2.eq_2, if_neg (by decide), if_neg (by decide), gd_p (by decide), vl_d, vl_d, f_X0_setNumber_2.eq_2, if_pos (by decide)]
  refine ⟨_, rfl, ?_, FB.u0.tr (FB.u0.tr (FB.u0.tr FB.u0))⟩
  have h1 := h.set (i := 14) (x := ushr v 24 &&& 255) (by omega)
  have h2 := h1.set (i := 15) (x := ushr v 16 &&& 255) (by rw [List.length_set]; omega)
  have h3 := h2.set (i := 16) (x := ushr v 8 &&& 255) (by rw [List.length_set, List.length_set]; omega)
  have h4 := h3.set (i := 17) (x := ushr v 0 &&& 255) (by rw [List.length_set, List.length_set, List.length_set]; omega)
  exact h4
theorem m_put14 {τ : Mem} {L : List Int32} {v : Int32} (h : ML τ L) (hl : 19 ≤ L.length) : ∃ τ', f_X8_putFour 14 v τ = some τ' ∧ ML τ' (S4r L v) ∧ Sm [829] τ τ' := by
  unfold f_X8_putFour
  rw [gd_p (by decide), vl_d, gd_p (by decide), vl_d, gd_p (by decide), vl_d, gd_p (by decide), vl_d]
  refine ⟨_, rfl, ?_, Sm.up (by decide) (Sm.up (by decide) (Sm.up (by decide) (Sm.up (by decide) Sm.rf)))⟩
  have h1 := h.set (i := 14) (x := ushr v 24) (by omega)
  have h2 := h1.set (i := 15) (x := (v >>> ((16 : Int32) &&& 31)) &&& 255) (by rw [List.length_set]; omega)
  have h3 := h2.set (i := 16) (x := (v >>> ((8 : Int32) &&& 31)) &&& 255) (by rw [List.length_set, List.length_set]; omega)
  have h4 := h3.set (i := 17) (x := v &&& 255) (by rw [List.length_set, List.length_set, List.length_set]; omega)
  unfold S4r
  rw [bb24, bb16, bb8, bb0]
  exact h4
theorem fr_set {L : List Int32} {x : Int32} {a : Nat} (h : 1 < L.length) (ha : 1 < a) : fr (L.set 1 x) a = fr L a := by
  unfold fr
  rw [gset h, gset h, gset h, gset h, if_neg (by omega), if_neg (by omega), if_neg (by omega), if_neg (by omega)]
/-- the sending of the same bytes on both sides -/
theorem b_bytes {σ τ : Mem} {Q : List Pk} {L : List Int32} {pl : Int32} (hC : CQ σ Q) (hM : MU τ Q) (hl : σ 502 0 0 = τ 824 0 0) (hp : PQS Q) (h1 : BL σ 61 L) (h2 : ML τ L) (hL : L.length ≤ 60) (hB : BY L) (hpl : PLC pl) : ∃ σ' τ' Q', f_X5_postBytes pl 61 σ = some σ' ∧ f_X8_send pl τ = some τ' ∧ CQ σ' Q' ∧ MU τ' Q' ∧ σ' 502 0 0 = τ' 824 0 0 ∧ PQS Q' ∧ FR σ σ' ∧ Sm M7 τ τ' := by
  obtain ⟨σ', e1, c1, c2, c3⟩ := v_postBytes (place := pl) hC (by omega) h1 hL
  obtain ⟨τ', e2, m1, m2, m3⟩ := v_send pl hM h2 hL
  refine ⟨σ', τ', _, e1, e2, c1, m1, ?_, hp.push ⟨hpl, hB, hL⟩, c3, m3.mono (by decide)⟩
  rw [c2, m2, hl]
theorem b_relay {σ τ : Mem} {Q : List Pk} {L : List Int32} {s4 : St4} {p : Nat} (hp1 : p = 13 ∨ p = 14 ∨ p = 15) (H : HMS σ τ L s4) (hB : BY L) (hb : BL σ 61 L) (hC : CQ σ Q) (hM : MU τ Q) (hl : σ 502 0 0 = τ 824 0 0) (hp : PQS Q) : ∃ σ' τ' Q', f_X7_passOn (nI p - 12) σ = some σ' ∧ f_X8_relay (nI p) τ = some τ' ∧ CQ σ' Q' ∧ MU τ' Q' ∧ σ' 502 0 0 = τ' 824 0 0 ∧ PQS Q' ∧ Sm [0, 1, 301, 501, 502] σ σ' ∧ (∀ f, σ' f 60 = σ f 60) ∧ Sm M7 τ τ' := by
  obtain ⟨⟨d0, d1, d2, d3, d4, d5, d6⟩, h4, hML, hm4, l1, l2⟩ := H
  have e0 : τ 829 0 (0 : Int32).toNatClampNeg = L.getD 0 0 := hML.2 0 (by omega)
  have e1 : τ 829 0 (1 : Int32).toNatClampNeg = L.getD 1 0 := hML.2 1 (by omega)
  have e18 : τ 829 0 (18 : Int32).toNatClampNeg = L.getD 18 0 := hML.2 18 (by omega)
  have Z : ∃ σ' τ' Q', some σ = some σ' ∧ some τ = some τ' ∧ CQ σ' Q' ∧ MU τ' Q' ∧ σ' 502 0 0 = τ' 824 0 0 ∧ PQS Q' ∧ Sm [0, 1, 301, 501, 502] σ σ' ∧ (∀ f, σ' f 60 = σ f 60) ∧ Sm M7 τ τ' := ⟨_, _, Q, rfl, rfl, hC, hM, hl, hp, Sm.rf, fun _ => rfl, Sm.rf⟩
  unfold f_X7_passOn f_X8_relay
  rw [d0, d1, d6, gd_p (by decide), gd_p (by decide), gd_p (by decide), e0, e18]
  by_cases c1 : L.getD 0 0 = 2
  · rw [if_pos c1, if_pos c1]
    rcases cli_cases (L.getD 18 0) with ⟨c, hc, f1, f2, f3⟩ | ⟨f2, f3⟩
    · rw [f2, f3, bn_s, bn_s, i10, i10, gd_p (by decide), bv_id, bv_id, d6, e18]
      obtain ⟨σ', τ', Q', x1, x2, x3, x4, x5, x6, x7, x8⟩ := b_bytes (pl := L.getD 18 0) hC hM hl hp hb hML l2 hB (by rw [f1]; exact ⟨c, rfl, by omega, by omega⟩)
      exact ⟨σ', τ', Q', x1, x2, x3, x4, x5, x6, x7.1, fun f => x7.2 f 60 (by omega), x8⟩
    · rw [f2, f3, bn_s, bn_s, i00, i00]; exact Z
  · rw [if_neg c1, if_neg c1, gd_p (by decide), e1]
    by_cases c2 : L.getD 1 0 < 4
    · rw [if_pos c2, if_pos c2, vl_d, gd_p (by decide), gd_p (by decide), vl_d]
      obtain ⟨n, hn, en⟩ := hB 1
      have hx : ∃ m, m < 256 ∧ L.getD 1 0 + 1 = nI m := by
        rw [en, nI_1]
        rw [en] at c2
        have : n < 4 := (nI_ltI (a := n) (b := 4) (by omega) (by decide)).mp c2
        exact ⟨n + 1, by omega, rfl⟩
      have bS : BL (up σ 0 61 (1 : Int32).toNatClampNeg (L.getD 1 0 + 1)) 61 (L.set 1 (L.getD 1 0 + 1)) := hb.set (i := 1) (by omega)
      have mS : ML (up τ 829 0 (1 : Int32).toNatClampNeg (L.getD 1 0 + 1)) (L.set 1 (L.getD 1 0 + 1)) := hML.set (i := 1) (by omega)
      have yS := BY.set (i := 1) hB (by omega) hx
      have lS : (L.set 1 (L.getD 1 0 + 1)).length = L.length := List.length_set
      have fS : fr (L.set 1 (L.getD 1 0 + 1)) 14 = fr L 14 := fr_set (by omega) (by omega)
      have FS : FB 61 σ (up σ 0 61 (1 : Int32).toNatClampNeg (L.getD 1 0 + 1)) := FB.u0
      have g5 : up σ 0 61 (1 : Int32).toNatClampNeg (L.getD 1 0 + 1) 205 0 0 = fr L 14 := by rw [up_fn (by decide)]; exact d5
      have SS : Sm [829] τ (up τ 829 0 (1 : Int32).toNatClampNeg (L.getD 1 0 + 1)) := Sm.up (by decide) Sm.rf
      generalize up σ 0 61 (1 : Int32).toNatClampNeg (L.getD 1 0 + 1) = σ1 at *
      generalize up τ 829 0 (1 : Int32).toNatClampNeg (L.getD 1 0 + 1) = τ1 at *
      generalize L.set 1 (L.getD 1 0 + 1) = L1 at *
      rw [m_gi mS (by omega) (by omega), bn_s, g5, fS]
      unfold f_X7_passOn_98 f_X8_relay_83
      have last : ∀ (σ2 τ2 : Mem) (L2 : List Int32), FB 61 σ σ2 → Sm [829] τ τ2 → BL σ2 61 L2 → ML τ2 L2 → L2.length = L.length → BY L2 → ∃ σ' τ' Q', f_X5_postBytes 16 61 σ2 = some σ' ∧ f_X8_send 16 τ2 = some τ' ∧ CQ σ' Q' ∧ MU τ' Q' ∧ σ' 502 0 0 = τ' 824 0 0 ∧ PQS Q' ∧ Sm [0, 1, 301, 501, 502] σ σ' ∧ (∀ f, σ' f 60 = σ f 60) ∧ Sm M7 τ τ' := by
        intro σ2 τ2 L2 F2 S2 b2 m2 k2 y2
        obtain ⟨σ', τ', Q', x1, x2, x3, x4, x5, x6, x7, x8⟩ := b_bytes (pl := 16) (hC.mv (fun f x => F2.1 f (by omega) (by omega)) (fun f j x y => F2.2 f j (by omega))) (hM.mv (S2 _ (by decide)) (S2 _ (by decide)) (S2 _ (by decide)) (S2 _ (by decide))) (by rw [F2.1 502 (by decide) (by decide), S2 824 (by decide)]; exact hl) hp b2 m2 (by omega) y2 ⟨16, rfl, by decide, by decide⟩
        refine ⟨σ', τ', Q', x1, x2, x3, x4, x5, x6, ?_, fun f => ?_, (S2.mono (by decide)).tr x8⟩
        · have : Sm [0, 1, 301, 501, 502] σ σ2 := fun f hf => F2.1 f (by intro q; exact hf (by simp [q])) (by intro q; exact hf (by simp [q]))
          exact this.tr x7.1
        · rw [x7.2 f 60 (by omega), F2.2 f 60 (by decide)]
      by_cases c3 : fr L 14 = 0
      · rw [if_pos c3, if_pos c3]
        have ev : ((nI p - 12) <<< ((8 : Int32) &&& 31)) + 1 = 256 * (nI p - 12) + 1 := by rcases hp1 with rfl | rfl | rfl <;> rfl
        rw [ev]
        obtain ⟨σ2, z1, z2, z3⟩ := k_setNumber (v := 256 * (nI p - 12) + 1) bS (by omega)
        obtain ⟨τ2, w1, w2, w3⟩ := m_put14 (v := 256 * (nI p - 12) + 1) mS (by omega)
        rw [z1, w1, bv_s, bv_s, bv_id, bv_id]
        exact last σ2 τ2 _ (FS.tr z3) (SS.tr w3) z2 w2 (by rw [S4_len, lS]) (S4_by yS (by omega))
      · rw [if_neg c3, if_neg c3, bv_id, bv_id]
        exact last σ1 τ1 L1 FS SS bS mS lS yS
    · rw [if_neg c2, if_neg c2]; exact Z
