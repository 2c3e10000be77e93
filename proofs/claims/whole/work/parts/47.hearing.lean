/-! the server's hearing as a whole -/
theorem cli_cases (x : Int32) : (∃ c, c < 12 ∧ x = nI c ∧ (∀ ρ, f_X7_isClient x ρ = some (1, ρ)) ∧ ∀ ρ, f_X8_isClient x ρ = some (1, ρ)) ∨ ((∀ ρ, f_X7_isClient x ρ = some (0, ρ)) ∧ ∀ ρ, f_X8_isClient x ρ = some (0, ρ)) := by
  unfold f_X7_isClient f_X8_isClient
  rcases pk_ix x (n := 12) (by decide) with h | h | ⟨n, hn, rfl⟩
  · right
    exact ⟨fun ρ => by rw [if_pos h], fun ρ => by rw [if_pos h]⟩
  · right
    have h0 : ¬ x < 0 := fun q => by
      have a : 12 ≤ x.toInt := Int32.le_iff_toInt_le.mp h
      have b : x.toInt < 0 := Int32.lt_iff_toInt_lt.mp q
      omega
    have h : (12 : Int32) ≤ x := h
    exact ⟨fun ρ => by rw [if_neg h0, if_pos h], fun ρ => by rw [if_neg h0, if_pos h]⟩
  · left
    have h1 : ¬ (12 : Int32) ≤ nI n := nI_ge (a := n) (b := 12) hn (by decide)
    have h0 : ¬ nI n < 0 := nI_pos (by omega)
    exact ⟨n, hn, rfl, fun ρ => by rw [if_neg h0, if_neg h1], fun ρ => by rw [if_neg h0, if_neg h1]⟩
theorem sub_cases (x : Int32) : (∃ c, c < 4 ∧ x = nI c ∧ (∀ ρ, f_X7_isSubnet x ρ = some (1, ρ)) ∧ ∀ ρ, f_X8_isSubnet x ρ = some (1, ρ)) ∨ ((∀ ρ, f_X7_isSubnet x ρ = some (0, ρ)) ∧ ∀ ρ, f_X8_isSubnet x ρ = some (0, ρ)) := by
  unfold f_X7_isSubnet f_X8_isSubnet
  rcases pk_ix x (n := 4) (by decide) with h | h | ⟨n, hn, rfl⟩
  · right
    exact ⟨fun ρ => by rw [if_pos h], fun ρ => by rw [if_pos h]⟩
  · right
    have h0 : ¬ x < 0 := fun q => by
      have a : 4 ≤ x.toInt := Int32.le_iff_toInt_le.mp h
      have b : x.toInt < 0 := Int32.lt_iff_toInt_lt.mp q
      omega
    have h : (4 : Int32) ≤ x := h
    exact ⟨fun ρ => by rw [if_neg h0, if_pos h], fun ρ => by rw [if_neg h0, if_pos h]⟩
  · left
    have h1 : ¬ (4 : Int32) ≤ nI n := nI_ge (a := n) (b := 4) hn (by decide)
    have h0 : ¬ nI n < 0 := nI_pos (by omega)
    exact ⟨n, hn, rfl, fun ρ => by rw [if_neg h0, if_neg h1], fun ρ => by rw [if_neg h0, if_neg h1]⟩
def RXI (σ τ : Mem) : Prop := ∀ c, c < 12 → (τ 811 0 c = 0 ∧ σ 605 0 c = -2147483648) ∨ (¬ τ 811 0 c = 0 ∧ σ 605 0 c = τ 810 0 c)
theorem RXI.mv {σ τ σ' τ' : Mem} (h : RXI σ τ) (a : σ' 605 = σ 605) (b : τ' 810 = τ 810) (d : τ' 811 = τ 811) : RXI σ' τ' := by
  intro c hc
  rw [a, b, d]
  exact h c hc
def RDN (σ τ : Mem) : Prop := (σ 600 0 0 = 1 ∧ τ 806 0 0 = 0) ∨ (σ 600 0 0 = 0 ∧ τ 806 0 0 = 1)
abbrev SF15 : List Nat := [200, 201, 202, 203, 204, 205, 206, 207, 208, 209, 210, 602, 603, 604, 605]
abbrev MF12 : List Nat := [807, 808, 809, 810, 811, 823, 824, 825, 826, 827, 828, 829]
def OPS (r : Int32) (Q : List Pk) (σ τ σ' τ' : Mem) : Prop := Sm SF15 σ σ' ∧ Sm MF12 τ τ' ∧ RRE σ' τ' ∧ RXI σ' τ' ∧ ((r = -1 ∧ MU τ' Q ∧ τ' 824 0 0 = τ 824 0 0) ∨ (PLC r ∧ MU τ' (qp Q (r, mEnc σ' 1)) ∧ τ' 824 0 0 = lqx Q (τ 824 0 0)))
theorem k_subnetOf {σ : Mem} {ci gi : Int32} (d3 : σ 203 0 0 = ci) (d5 : σ 205 0 0 = gi) : f_X6_subnetOf 0 σ = some ((if gi = 0 then ci else gi) >>> ((8 : Int32) &&& 31), σ) := by
  unfold f_X6_subnetOf f_X6_subnetOf_18
  rw [d3, d5]
  by_cases q : gi = 0
  · rw [if_pos q, if_pos q]
  · rw [if_neg q, if_neg q]
/-- the server's place for the answer -/
theorem b_place {gi ci : Int32} {c s : Nat} (hc : c < 12) (hs : s < 4) (h : (if gi = 0 then ci else gi) >>> ((8 : Int32) &&& 31) = nI s) : (if gi = 0 then nI c else if nI s = 0 then nI c else 12 + nI s) = mpl gi (nI c) ∧ PLC (mpl gi (nI c)) := by
  have pc : PLC (nI c) := ⟨c, rfl, by omega, by omega⟩
  unfold mpl
  by_cases q : gi = 0
  · subst q
    rw [if_pos rfl, if_pos (by decide)]
    exact ⟨rfl, pc⟩
  · rw [if_neg q] at h ⊢
    rw [h]
    by_cases q0 : s = 0
    · subst q0
      rw [if_pos (show nI 0 = 0 from rfl), if_pos (show nI 0 ≤ 0 by decide)]
      exact ⟨rfl, pc⟩
    · rw [if_neg (nI_ne0 (by omega) (by omega)), if_neg (nI_nle (by omega) (by omega))]
      exact ⟨rfl, 12 + s, nI_add 12 s, by omega, by omega⟩
/-- the part after the checks -/
theorem b_serveTail {σ τ : Mem} {c s lo hi : Nat} {L : List Int32} {s4 : St4} {t : Int32} {Q : List Pk} (hc : c < 12) (hP : PXS σ τ s lo hi) (hR : RRE σ τ) (hX : RXI σ τ) (hQ : MU τ Q) (ht : t = τ 801 0 0) (H : HMS σ τ L s4) (h18 : L.getD 18 0 = nI c) (hsn : (if fr L 14 = 0 then fr L 6 else fr L 14) >>> ((8 : Int32) &&& 31) = nI s) :
    ∃ r σ' τ', (vl (up σ 605 0 c (fr L 2)) fun s22 => bv (f_X2_start 1 2 (s22 202 0 0) (nI c) s22) fun s25 => vl (up s25 205 1 0 (s25 205 0 0)) fun s26 => gd (vin (nI s) 4) (bv (f_X6_lookAt 0 s t 1 s26) fun s30 => if s30 207 1 0 = -1 then some (-1, s30) else if s30 205 0 0 = 0 then some (nI c, s30) else if nI s = 0 then some (nI c, s30) else some (12 + nI s, s30))) = some (r, σ') ∧ f_X8_serve_104 (nI c) (fr L 14) (fr L 6) (nI s) (fr L 2) τ = some τ' ∧ OPS r Q σ τ σ' τ' := by
  obtain ⟨⟨k1, k2, k3, k4⟩, g1, g2, g3, g4⟩ := H.kd
  obtain ⟨⟨d0, d1, d2, d3, d4, d5, d6⟩, h4, hML, hm4, l1, l2⟩ := H
  have hs : s < 4 := hP.1
  rw [m_104 hc, vl_d]
  have S1 : Sm [605] σ (up σ 605 0 c (fr L 2)) := Sm.up (by decide) Sm.rf
  obtain ⟨σ2, e2, F2, q0, q1, q2, q3, q4, q5, q6, q7⟩ := v_start (σ := up σ 605 0 c (fr L 2)) 1 2 (fr L 2) (nI c)
  rw [show up σ 605 0 c (fr L 2) 202 0 0 = fr L 2 by rw [up_fn (by decide)]; exact d2, e2, bv_s, vl_d, gd_p (v4 hs)]
  have gi2 : σ2 205 0 0 = fr L 14 := by rw [F2.2 205 0 (by decide), up_fn (by decide)]; exact d5
  rw [gi2]
  have S3 : Sm [200, 201, 202, 203, 204, 205, 206, 207, 208, 209, 210, 605] σ (up σ2 205 1 0 (fr L 14)) := Sm.up (by decide) ((S1.mono (by decide)).tr (F2.1.mono (by decide)))
  have Z3 : ∀ f, f ≠ 605 → up σ2 205 1 0 (fr L 14) f 0 = σ f 0 := fun f hf => by rw [up_fj (by decide), F2.2 f 0 (by decide), up_fn hf]
  have D3 : DRB (up σ2 205 1 0 (fr L 14)) c (fr L 2) (fr L 14) := by
    have q7' : σ2 207 1 0 = -1 ∧ σ2 208 1 0 = 0 ∧ σ2 209 1 0 = 0 ∧ σ2 210 1 0 = 0 := by
      unfold hs4 at q7
      injection q7 with a b
      injection b with b d
      injection d with d e
      exact ⟨a, b, d, e⟩
    refine ⟨?_, ?_, ?_, ?_, ?_, ?_, ?_, ?_, ?_, ?_, ?_⟩
    · rw [up_fn (by decide)]; exact q0
    · rw [up_fn (by decide)]; exact q1
    · rw [up_fn (by decide)]; exact q2
    · rw [up_fn (by decide)]; exact q3
    · rw [up_fn (by decide)]; exact q4
    · rw [up_at]
    · rw [up_fn (by decide)]; exact q6
    · rw [up_fn (by decide)]; exact q7'.1
    · rw [up_fn (by decide)]; exact q7'.2.1
    · rw [up_fn (by decide)]; exact q7'.2.2.1
    · rw [up_fn (by decide)]; exact q7'.2.2.2
  have x605 : up σ2 205 1 0 (fr L 14) 605 = up σ 605 0 c (fr L 2) 605 := by rw [up_fn (by decide), F2.1 605 (by decide)]
  generalize up σ2 205 1 0 (fr L 14) = σ3 at *
  have T3 : Sm [810, 811] τ (up (up τ 811 0 c 1) 810 0 c (fr L 2)) := Sm.up (by decide) (Sm.up (by decide) Sm.rf)
  have x810 : up (up τ 811 0 c 1) 810 0 c (fr L 2) 810 = up τ 810 0 c (fr L 2) 810 := by rw [up_comm (by decide), up_fn (by decide)]
  have x811 : up (up τ 811 0 c 1) 810 0 c (fr L 2) 811 = up τ 811 0 c 1 811 := by rw [up_fn (by decide)]
  generalize up (up τ 811 0 c 1) 810 0 c (fr L 2) = τ3 at *
  have ML3 : ML τ3 L := hML.mv (T3 _ (by decide)) (T3 _ (by decide))
  have R3 : RRE σ3 τ3 := hR.mv (fun f a b => S3 f (by simp; omega)) (fun f a b => T3 f (by simp; omega))
  obtain ⟨σ4, τ4, e4, e5, lk⟩ := b_lookAt (k := s4.1) (w := s4.2.1) (sv := s4.2.2.2) (ci := fr L 6) (Q := Q) (t := t) hc (hP.mv (fun f a b => S3 f (by simp; omega)) (fun f a b => T3 f (by simp; omega))) R3 D3 (hQ.mv (T3 _ (by decide)) (T3 _ (by decide)) (T3 _ (by decide)) (T3 _ (by decide))) (by rw [T3 801 (by decide)]; exact ht) (by rw [Z3 206 (by decide), d6]; exact h18) (by rw [Z3 207 (by decide)]; exact k1) (by rw [T3 833 (by decide)]; exact g1) (by rw [Z3 208 (by decide)]; exact k2) (by rw [T3 834 (by decide)]; exact g2) (by rw [Z3 210 (by decide)]; exact k4) (by rw [T3 836 (by decide)]; exact g4) (by rw [Z3 203 (by decide)]; exact d3) (m_ci ML3 l1 l2)
  obtain ⟨n1, n2, n3, n4, n5⟩ := lk
  rw [e4, bv_s, e5]
  have gi4 : σ4 205 0 0 = fr L 14 := by rw [n4 205 0 (by decide) (by decide) (by decide), Z3 205 (by decide)]; exact d5
  rw [gi4]
  obtain ⟨bp1, bp2⟩ := b_place (ci := fr L 6) (gi := fr L 14) hc hs hsn
  have X4 : RXI σ4 τ4 := by
    intro d hd
    rw [n1 605 (by decide), n2 810 (by decide), n2 811 (by decide), x605, x810, x811]
    by_cases q : d = c
    · subst q
      right
      rw [up_at, up_at, up_at]
      exact ⟨by decide, rfl⟩
    · rw [up_rd, up_rd, up_rd, if_neg (fun w => q w.2.2), if_neg (fun w => q w.2.2), if_neg (fun w => q w.2.2)]
      exact hX d hd
  have SS : Sm SF15 σ σ4 := (S3.mono (by decide)).tr (n1.mono (by decide))
  have TT : Sm MF12 τ τ4 := (T3.mono (by decide)).tr (n2.mono (by decide))
  rw [T3 824 (by decide)] at n5
  rcases n5 with ⟨v1, v2, v3⟩ | ⟨v1, v2, v3⟩
  · rw [if_pos v1]
    exact ⟨_, _, _, rfl, rfl, SS, TT, n3, X4, Or.inl ⟨rfl, v2, v3⟩⟩
  · rw [if_neg v1]
    have e6 : (if fr L 14 = 0 then some (nI c, σ4) else if nI s = 0 then some (nI c, σ4) else some (12 + nI s, σ4)) = some (mpl (fr L 14) (nI c), σ4) := by
      rw [← bp1]
      by_cases z1 : fr L 14 = 0
      · rw [if_pos z1, if_pos z1]
      · rw [if_neg z1, if_neg z1]
        by_cases z2 : nI s = 0
        · rw [if_pos z2, if_pos z2]
        · rw [if_neg z2, if_neg z2]
    rw [e6]
    exact ⟨_, _, _, rfl, rfl, SS, TT, n3, X4, Or.inr ⟨bp2, v2, v3⟩⟩
theorem b_serve {σ τ : Mem} {L : List Int32} {s4 : St4} {t : Int32} {Q : List Pk} (hP : RPO σ τ) (hR : RRE σ τ) (hX : RXI σ τ) (hN : RDN σ τ) (hQ : MU τ Q) (ht : t = τ 801 0 0) (H : HMS σ τ L s4) : ∃ r σ' τ', f_X6_hear 0 t 1 σ = some (r, σ') ∧ f_X8_serve τ = some τ' ∧ OPS r Q σ τ σ' τ' := by
  have H2 := H
  obtain ⟨⟨d0, d1, d2, d3, d4, d5, d6⟩, h4, hML, hm4, l1, l2⟩ := H
  have Z : ∃ r σ' τ', some ((-1 : Int32), σ) = some (r, σ') ∧ some τ = some τ' ∧ OPS r Q σ τ σ' τ' := ⟨_, _, _, rfl, rfl, Sm.rf, Sm.rf, hR, hX, Or.inl ⟨rfl, hQ, rfl⟩⟩
  have e0 : τ 829 0 (0 : Int32).toNatClampNeg = L.getD 0 0 := hML.2 0 (by omega)
  have e18 : τ 829 0 (18 : Int32).toNatClampNeg = L.getD 18 0 := hML.2 18 (by omega)
  have em : f_X8_serve τ = f_X8_serve_33 (L.getD 18 0) (fr L 14) (fr L 6) ((if fr L 14 = 0 then fr L 6 else fr L 14) >>> ((8 : Int32) &&& 31)) τ := by
    unfold f_X8_serve
    rw [gd_p (by decide), m_gi hML l1 l2, bn_s, m_ci hML l1 l2, bn_s, e18]
    by_cases q : fr L 14 = 0
    · rw [if_pos q, if_pos q]
    · rw [if_neg q, if_neg q]
  rw [em]
  unfold f_X6_hear f_X8_serve_33
  rw [m_xid hML l1 l2, bn_s, k_subnetOf d3 d5, bn_s, d0, gd_p (by decide), e0]
  generalize hsn : (if fr L 14 = 0 then fr L 6 else fr L 14) >>> ((8 : Int32) &&& 31) = sn
  rcases hN with ⟨n1, n2⟩ | ⟨n1, n2⟩
  · rw [n1, n2, if_neg (by decide), if_pos rfl]
    by_cases c1 : L.getD 0 0 = 1
    · rw [if_pos c1, if_pos c1, d6]
      rcases cli_cases (L.getD 18 0) with ⟨c, hc, e1, e2, e3⟩ | ⟨e2, e3⟩
      · rw [e2, e3, bn_s, bn_s, i10, i10, e1]
        rcases sub_cases sn with ⟨s, hs, rfl, f2, f3⟩ | ⟨f2, f3⟩
        · rw [f2, f3, bn_s, bn_s, i10, i10, gd_p (v4 hs), gd_p (v4 hs), cln (show s < 2 ^ 31 by omega)]
          rcases hP s hs with ⟨p1, p2⟩ | ⟨lo, hi, p⟩
          · rw [p2, if_pos rfl]
            have : f_X4_exists s σ = some (0, σ) := by unfold f_X4_exists; rw [p1, if_pos rfl]
            rw [this, bn_s, if_pos rfl]
            exact Z
          · have hPX : PXS σ τ s lo hi := ⟨hs, p⟩
            have p3 : ¬ τ 803 0 s = 0 := by rw [p.2.2.2.2.2.2.1]; exact nI_ne0 (by have := p.1; have := p.2.1; omega) (by have := p.2.2.1; omega)
            rw [k_exists hPX, bn_s, i10, if_neg p3, gd_p (v12 hc), gd_p (v12 hc), gd_p (v12 hc), gd_p (v12 hc), cln (show c < 2 ^ 31 by omega), d2]
            obtain ⟨r, σ', τ', T1, T2, T3⟩ := b_serveTail (t := t) hc hPX hR hX hQ ht H2 e1 hsn
            have T1' : (vl (up σ 605 0 c (fr L 2)) fun s22 => bv (f_X2_start 1 2 (s22 202 0 0) (nI c) s22) fun s25 => vl (up s25 205 1 0 (s25 205 0 0)) fun s26 => gd (vin (nI s) 4) (bv (f_X6_lookAt 0 s t 1 s26) fun s30 => if s30 207 1 0 = -1 then some (-1, s30) else if s30 205 0 0 = 0 then f_X6_hear_140 (nI c) s30 else if nI s = 0 then f_X6_hear_140 (nI c) s30 else bn (f_X7_relayOf (nI s) s30) fun r36 s35 => some (r36, s35))) = some (r, σ') := T1
            have ok : ∃ r σ' τ', (vl (up σ 605 0 c (fr L 2)) fun s22 => bv (f_X2_start 1 2 (s22 202 0 0) (nI c) s22) fun s25 => vl (up s25 205 1 0 (s25 205 0 0)) fun s26 => gd (vin (nI s) 4) (bv (f_X6_lookAt 0 s t 1 s26) fun s30 => if s30 207 1 0 = -1 then some (-1, s30) else if s30 205 0 0 = 0 then f_X6_hear_140 (nI c) s30 else if nI s = 0 then f_X6_hear_140 (nI c) s30 else bn (f_X7_relayOf (nI s) s30) fun r36 s35 => some (r36, s35))) = some (r, σ') ∧ f_X8_serve_104 (nI c) (fr L 14) (fr L 6) (nI s) (fr L 2) τ = some τ' ∧ OPS r Q σ τ σ' τ' := ⟨r, σ', τ', T1', T2, T3⟩
            rcases hX c hc with ⟨y1, y2⟩ | ⟨y1, y2⟩
            · rw [if_pos y1, if_pos (show σ 605 0 c ≤ fr L 2 by rw [y2]; exact Int32.le_iff_toInt_le.mpr (by have := Int32.le_toInt (fr L 2); exact this))]
              exact ok
            · rw [if_neg y1, y2]
              by_cases y3 : τ 810 0 c ≤ fr L 2
              · rw [if_pos y3, if_pos y3]; exact ok
              · rw [if_neg y3, if_neg y3]; exact Z
        · rw [f2, f3, bn_s, bn_s, if_pos rfl, if_pos rfl]; exact Z
      · rw [e2, e3, bn_s, bn_s, if_pos rfl, if_pos rfl]; exact Z
    · rw [if_neg c1, if_neg c1]; exact Z
  · rw [n1, n2, if_pos rfl, if_neg (by decide)]; exact Z
