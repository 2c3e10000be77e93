/-! the server hears, on both sides -/
theorem bn_k {β : Type} (a : Int32) (b : Mem) (k : Int32 → Mem → Option β) : bn (some (a, b)) k = k a b := (bn_s a b k).trans rfl
theorem bv_k {β : Type} (x : Mem) (k : Mem → Option β) : bv (some x) k = k x := (bv_s x k).trans rfl
theorem vl_k {α β : Type} (a : α) (k : α → Option β) : vl a k = k a := (vl_d a k).trans rfl
theorem i10 {β : Type} (a b : β) : (if (1 : Int32) = 0 then a else b) = b := if_neg (by decide)
theorem i00 {β : Type} (a b : β) : (if (0 : Int32) = 0 then a else b) = a := if_pos rfl
theorem nneg {c : Nat} (hc : c < 12) : ¬ nI c = -1 := fun q => absurd (q ▸ nI_pos (n := c) (by omega)) (by decide)
theorem b_offerS {σ τ : Mem} {c s lo hi : Nat} {w xid gi t : Int32} {Q : List Pk} (hc : c < 12) (hP : PXS σ τ s lo hi) (hR : RRE σ τ) (hD : DRB σ c xid gi) (hQ : MU τ Q) (ht : t = τ 801 0 0) (h6 : σ 206 0 0 = nI c) (h8 : σ 208 0 0 = w) (g8 : τ 834 0 0 = w) : ∃ σ' τ', f_X6_offer 0 s t 1 σ = some σ' ∧ f_X8_discover (nI s) (nI c) xid gi τ = some τ' ∧ LOK Q (mpl gi (nI c)) σ τ σ' τ' := by
  have hP2 := hP
  obtain ⟨hs, h2, h3, h4, -⟩ := hP
  obtain ⟨a, a1, a2, a3, a4⟩ := b_choose hP2 hR ht (nneg hc) h6 (h8.trans g8.symm)
  unfold f_X6_offer f_X8_discover
  rw [a3, a4, bn_s, bn_s]
  by_cases c0 : a = 0
  · rw [if_pos (by rw [c0]; rfl), if_pos (by rw [c0]; rfl)]
    exact ⟨_, _, rfl, rfl, LOK.no hD hQ hR Sm.rf Sm.rf⟩
  · have ha : a < 1024 := by omega
    have hRa := hR a ha
    rw [if_neg (nI_ne0 (by omega) (by omega)), if_neg (nI_ne0 (by omega) (by omega)), gd_p (vin_n ha (by decide)), gd_p (vin_n ha (by decide)), gd_p (vin_n ha (by decide)), cln (by omega), h6]
    have put : ∃ σ' τ', f_X6_offer_54 0 s t 1 (nI a) σ = some σ' ∧ f_X8_discover_50 (nI s) (nI c) xid gi (nI a) τ = some τ' ∧ LOK Q (mpl gi (nI c)) σ τ σ' τ' := by
      unfold f_X6_offer_54 f_X6_offer_55 f_X8_discover_50 f_X6_offer_77 f_X8_discover_65
      rw [if_pos rfl, h6, k_write ha, m_write ha, bv_s, bv_s, bv_id, bv_id, ← ht]
      obtain ⟨σ', τ', e1, e2, L⟩ := b_grant (kind := 2) (yi := nI a) hc (hP2.mv (fun f x y => WR_S f (by simp; omega)) (fun f x y => MR_S f (by simp; omega))) (hR.wr (a := a) (st := 1) (ow := nI c) (ow2 := nI c) (e := t + 8) (by omega) (by simp) (by simp)) (hD.mv (fun f x y => WR_S f (by simp; omega))) (hQ.mv (MR_S _ (by decide)) (MR_S _ (by decide)) (MR_S _ (by decide)) (MR_S _ (by decide))) (Or.inl rfl)
      exact ⟨σ', τ', e1, e2, L.pre WR_S MR_S⟩
    have leave : ∃ σ' τ', f_X6_offer_55 0 s t 1 (nI a) 1 σ = some σ' ∧ f_X8_discover_65 (nI s) (nI c) xid gi (nI a) τ = some τ' ∧ LOK Q (mpl gi (nI c)) σ τ σ' τ' := by
      unfold f_X6_offer_55 f_X6_offer_77 f_X8_discover_65
      rw [if_neg (by decide), bv_id, bv_id]
      exact b_grant hc hP2 hR hD hQ (Or.inl rfl)
    have hiff := ow_iff (x := nI c) hRa (nneg hc)
    rcases k_isOwner (σ := σ) (x := nI c) (a := a) (by omega) ha with ⟨o, e⟩ | ⟨o, e⟩
    · obtain ⟨o1, o2⟩ := hiff.mp o
      rw [e, bn_s, i10, gd_p (vin_n ha (by decide)), gd_p (vin_n ha (by decide)), hRa.1, hRa.2.1, if_pos o2, ← ht]
      by_cases c2 : τ 807 0 a = 2
      · rw [if_pos c2, if_pos c2]
        by_cases c3 : t < τ 809 0 a
        · rw [if_pos c3, if_neg (Int32.not_le.mpr c3)]; exact leave
        · rw [if_neg c3, if_pos (Int32.not_lt.mp c3)]; exact put
      · rw [if_neg c2, if_neg c2]; exact put
    · rw [e, bn_s, if_pos rfl]
      by_cases c2 : τ 807 0 a = 2
      · rw [if_pos c2]
        by_cases c3 : τ 808 0 a = nI c
        · exact absurd (hiff.mpr ⟨Or.inr c2, c3⟩) o
        · rw [if_neg c3]; exact put
      · rw [if_neg c2]; exact put
theorem b_askAt {σ τ : Mem} {c s lo hi : Nat} {x xid gi t : Int32} {Q : List Pk} (hc : c < 12) (hP : PXS σ τ s lo hi) (hR : RRE σ τ) (hD : DRB σ c xid gi) (hQ : MU τ Q) (ht : t = τ 801 0 0) (h6 : σ 206 0 0 = nI c) : ∃ σ' τ', f_X6_request_135 0 s t 1 x σ = some σ' ∧ f_X8_request_169 (nI s) (nI c) xid gi x τ = some τ' ∧ LOK Q (mpl gi (nI c)) σ τ σ' τ' := by
  have hP2 := hP
  obtain ⟨hs, h2, h3, h4, -⟩ := hP
  have N : ∀ y : Int32, ∃ σ' τ', f_X6_decide 0 y s t 1 σ = some σ' ∧ f_X8_answer (nI s) 6 0 xid gi (nI c) τ = some τ' ∧ LOK Q (mpl gi (nI c)) σ τ σ' τ' := fun y => b_nak hc hR hD hQ
  have m0 : ∀ y : Int32, f_X8_request_215 (nI s) (nI c) xid gi y τ = f_X8_answer (nI s) 6 0 xid gi (nI c) τ := by
    intro y
    unfold f_X8_request_215 f_X8_request_216 f_X8_request_231 f_X8_request_244 f_X8_request_255
    rw [if_pos rfl, if_pos rfl, if_pos rfl, bv_id]
  unfold f_X6_request_135 f_X8_request_169 f_X6_request_156 f_X8_request_196 f_X6_request_182 f_X6_request_183
  rcases b_inPool hP2 x with ⟨a, a1, a2, rfl, a4, a5⟩ | ⟨a4, a5⟩
  · have ha : a < 1024 := by omega
    have hRa := hR a ha
    simp only [a4, a5, bn_k, i10, gd_p (vin_n ha (by decide)), cln (show a < 2 ^ 31 by omega), hRa.1, h6, bv_id]
    by_cases c1 : τ 807 0 a = 0
    · rw [if_pos c1, if_pos c1]
      exact ⟨_, _, rfl, rfl, LOK.no hD hQ hR Sm.rf Sm.rf⟩
    · rw [if_neg c1, if_neg c1]
      have hiff := ow_iff (x := nI c) hRa (nneg hc)
      rcases k_isOwner (σ := σ) (x := nI c) (a := a) (by omega) ha with ⟨o, e⟩ | ⟨o, e⟩
      · rcases m_isOf (x := nI c) hRa ha with ⟨p, e'⟩ | ⟨p, e'⟩
        · rw [e, e', bn_s, bn_s, if_neg (by decide), if_neg (by decide)]
          unfold f_X8_request_216 f_X8_request_231 f_X8_request_244 f_X8_request_255
          rw [i10]
          simp only [bv_id, i10]
          exact b_lease hc hP2 hR hD hQ ht (by omega) ha o
        · exact absurd (hiff.mp o) p
      · rcases m_isOf (x := nI c) hRa ha with ⟨p, e'⟩ | ⟨p, e'⟩
        · exact absurd (hiff.mpr p) o
        · rw [e, e', bn_s, bn_s, if_pos rfl, if_pos rfl, m0]
          exact N _
  · simp only [a4, a5, bn_k, i00, bv_id, m0]
    exact N x
theorem b_requestS {σ τ : Mem} {c s lo hi : Nat} {w sv ci xid gi t : Int32} {Q : List Pk} (hc : c < 12) (hP : PXS σ τ s lo hi) (hR : RRE σ τ) (hD : DRB σ c xid gi) (hQ : MU τ Q) (ht : t = τ 801 0 0) (h6 : σ 206 0 0 = nI c) (h8 : σ 208 0 0 = w) (g8 : τ 834 0 0 = w) (h10 : σ 210 0 0 = sv) (g10 : τ 836 0 0 = sv) (h3' : σ 203 0 0 = ci) (g3 : f_X8_ciaddr τ = some (ci, τ)) : ∃ σ' τ', f_X6_request 0 s t 1 σ = some σ' ∧ f_X8_request (nI s) (nI c) xid gi τ = some τ' ∧ LOK Q (mpl gi (nI c)) σ τ σ' τ' := by
  have hP2 := hP
  obtain ⟨hs, h2, h3, h4, -⟩ := hP
  have N : ∀ y : Int32, ∃ σ' τ', f_X6_decide 0 y s t 1 σ = some σ' ∧ f_X8_answer (nI s) 6 0 xid gi (nI c) τ = some τ' ∧ LOK Q (mpl gi (nI c)) σ τ σ' τ' := fun y => b_nak hc hR hD hQ
  have m0 : f_X8_request_52 (nI s) (nI c) xid gi τ = f_X8_answer (nI s) 6 0 xid gi (nI c) τ := by
    unfold f_X8_request_52 f_X8_request_53 f_X8_request_74 f_X8_request_87 f_X8_request_98
    rw [if_pos rfl, if_pos rfl, if_pos rfl, bv_id]
  have k0 : f_X6_request_51 0 s t 1 σ = f_X6_decide 0 w s t 1 σ := by
    unfold f_X6_request_51 f_X6_request_52
    rw [bv_id, h8]
  unfold f_X6_request f_X8_request
  rw [h10, g10]
  by_cases c1 : sv = 1
  · rw [if_pos c1, if_pos c1, h8, g8]
    rcases b_inPool hP2 w with ⟨a, a1, a2, e0, a4, a5⟩ | ⟨a4, a5⟩
    · have ha : a < 1024 := by omega
      have hRa := hR a ha
      rw [a4, a5, bn_s, bn_s, if_neg (by decide), if_neg (by decide), h6, h8, g8]
      have hiff := ow_iff (x := nI c) hRa (nneg hc)
      subst e0
      rcases k_isOwner (σ := σ) (x := nI c) (a := a) (by omega) ha with ⟨o, e⟩ | ⟨o, e⟩
      · rcases m_isOf (x := nI c) hRa ha with ⟨p, e'⟩ | ⟨p, e'⟩
        · simp only [e, e', bn_k, i10, h8, g8, gd_p (vin_n ha (by decide)), cln (show a < 2 ^ 31 by omega), hRa.2.1, ← ht]
          by_cases c3 : τ 809 0 a ≤ t
          · rw [if_pos c3, if_pos c3, k0, m0]; exact N _
          · rw [if_neg c3, if_neg c3]
            unfold f_X6_request_52 f_X8_request_53 f_X8_request_74 f_X8_request_87 f_X8_request_98
            rw [bv_id, h8, g8, i10]
            simp only [bv_id, i10]
            exact b_lease hc hP2 hR hD hQ ht (by omega) ha o
        · exact absurd (hiff.mp o) p
      · rcases m_isOf (x := nI c) hRa ha with ⟨p, e'⟩ | ⟨p, e'⟩
        · exact absurd (hiff.mpr p) o
        · rw [e, e', bn_s, bn_s, if_pos rfl, if_pos rfl, k0, m0]; exact N _
    · rw [a4, a5, bn_s, bn_s, if_pos rfl, if_pos rfl, k0, m0]; exact N _
  · rw [if_neg c1, if_neg c1]
    by_cases c2 : sv = 0
    · rw [if_pos c2, if_pos c2, g3, bn_s, h3', h8, g8]
      by_cases c3 : ci = 0
      · rw [if_pos c3, if_pos c3]
        exact b_askAt hc hP2 hR hD hQ ht h6
      · rw [if_neg c3, if_neg c3, g3, bn_s]
        exact b_askAt hc hP2 hR hD hQ ht h6
    · rw [if_neg c2, if_neg c2, h6]
      obtain ⟨r, r1, r2, r3, r4⟩ := b_leastOf (x := nI c) hP2 hR (nneg hc)
      unfold f_X6_request_114 f_X8_request_148
      rw [r3, r4, bn_s, bn_s]
      by_cases c4 : r = 0
      · rw [if_pos (show nI r = 0 by rw [c4]; rfl), if_pos (show nI r ≤ 0 by rw [c4]; decide)]
        exact ⟨_, _, rfl, rfl, LOK.no hD hQ hR Sm.rf Sm.rf⟩
      · have ha : r < 1024 := by omega
        rw [if_neg (nI_ne0 (by omega) (by omega)), if_neg (nI_nle (by omega) (by omega)), gd_p (vin_n ha (by decide)), gd_p (vin_n ha (by decide)), cln (by omega), (hR r ha).1, k_write ha, m_write ha, bv_s, bv_s]
        by_cases c5 : τ 807 0 r = 1
        · rw [if_pos c5, if_pos c5]
          exact ⟨_, _, rfl, rfl, LOK.no hD hQ (hR.wr (by omega) (by simp) (by simp)) WR_S MR_S⟩
        · rw [if_neg c5, if_neg c5]
          exact ⟨_, _, rfl, rfl, LOK.no hD hQ hR Sm.rf Sm.rf⟩
def MLK (s c : Nat) (xid gi ci : Int32) (τ : Mem) : Option Mem := if τ 833 0 0 = 1 then f_X8_discover (nI s) (nI c) xid gi τ else if τ 833 0 0 = 3 then f_X8_request (nI s) (nI c) xid gi τ else if τ 833 0 0 = 4 then bn (f_X8_isAddress (τ 834 0 0) τ) (fun r26 s25 => if r26 = 0 then some s25 else bn (f_X8_isOf (s25 834 0 0) (nI c) s25) (fun r30 s29 => if r30 = 0 then some s29 else f_X8_setRecord (s29 834 0 0) 3 (-1) (s29 801 0 0 + 100) s29)) else if τ 833 0 0 = 7 then bn (f_X8_isAddress ci τ) (fun r13 s12 => if r13 = 0 then some s12 else bn (f_X8_isOf ci (nI c) s12) (fun r17 s16 => if r17 = 0 then some s16 else gd (vin ci 1024) (if s16 807 0 ci.toNatClampNeg = 2 then gd (vin ci 1024) (vl (up s16 809 0 ci.toNatClampNeg (s16 801 0 0)) (fun s22 => some s22)) else some s16))) else some τ
theorem m_104 {τ : Mem} {c s : Nat} {xid gi ci : Int32} (hc : c < 12) : f_X8_serve_104 (nI c) gi ci (nI s) xid τ = MLK s c xid gi ci (up (up τ 811 0 c 1) 810 0 c xid) := by
  unfold f_X8_serve_104 MLK
  rw [gd_p (v12 hc), vl_d, gd_p (v12 hc), vl_d, cln (by omega)]
  simp only [bv_id]
  rfl
theorem b_lookAt {σ τ : Mem} {c s lo hi : Nat} {k w sv ci xid gi t : Int32} {Q : List Pk} (hc : c < 12) (hP : PXS σ τ s lo hi) (hR : RRE σ τ) (hD : DRB σ c xid gi) (hQ : MU τ Q) (ht : t = τ 801 0 0) (h6 : σ 206 0 0 = nI c) (h7 : σ 207 0 0 = k) (g7 : τ 833 0 0 = k) (h8 : σ 208 0 0 = w) (g8 : τ 834 0 0 = w) (h10 : σ 210 0 0 = sv) (g10 : τ 836 0 0 = sv) (h3' : σ 203 0 0 = ci) (g3 : f_X8_ciaddr τ = some (ci, τ)) : ∃ σ' τ', f_X6_lookAt 0 s t 1 σ = some σ' ∧ MLK s c xid gi ci τ = some τ' ∧ LOK Q (mpl gi (nI c)) σ τ σ' τ' := by
  have X : ∃ σ' τ', some σ = some σ' ∧ some τ = some τ' ∧ LOK Q (mpl gi (nI c)) σ τ σ' τ' := ⟨_, _, rfl, rfl, LOK.no hD hQ hR Sm.rf Sm.rf⟩
  unfold f_X6_lookAt MLK
  rw [h7, g7]
  by_cases k1 : k = 1
  · rw [if_pos k1, if_pos k1, bv_id]
    exact b_offerS hc hP hR hD hQ ht h6 h8 g8
  rw [if_neg k1, if_neg k1]
  by_cases k2 : k = 2
  · rw [if_pos k2, if_neg (by rw [k2]; decide), if_neg (by rw [k2]; decide), if_neg (by rw [k2]; decide)]; exact X
  rw [if_neg k2]
  by_cases k3 : k = 3
  · rw [if_pos k3, if_pos k3, bv_id]
    exact b_requestS hc hP hR hD hQ ht h6 h8 g8 h10 g10 h3' g3
  rw [if_neg k3, if_neg k3]
  by_cases k4 : k = 4
  · rw [if_pos k4, if_pos k4, h6, h8, g8]
    rcases adr_cases w with ⟨a, a1, ha, rfl, e1, e2⟩ | ⟨e1, e2, -⟩
    · have hRa := hR a ha
      have hiff := ow_iff (x := nI c) hRa (nneg hc)
      rw [e2, bn_s, if_neg (by decide), g8]
      rcases k_isOwner (σ := σ) (x := nI c) (a := a) a1 ha with ⟨o, e⟩ | ⟨o, e⟩
      · rcases m_isOf (x := nI c) hRa ha with ⟨p, e'⟩ | ⟨p, e'⟩
        · rw [e, e', bn_s, bn_s, if_neg (by decide), if_neg (by decide), h8, g8, k_write ha, m_write ha, bv_s, ← ht]
          exact ⟨_, _, rfl, rfl, LOK.no hD hQ (hR.wr (by omega) (by simp) (by simp)) WR_S MR_S⟩
        · exact absurd (hiff.mp o) p
      · rcases m_isOf (x := nI c) hRa ha with ⟨p, e'⟩ | ⟨p, e'⟩
        · exact absurd (hiff.mpr p) o
        · rw [e, e', bn_s, bn_s, if_pos rfl, if_pos rfl]; exact X
    · have eo : f_X6_isOwner (nI c) w σ = some (0, σ) := by
        unfold f_X6_isOwner
        rw [e1, bn_s, if_pos rfl]
      rw [e2, eo, bn_s, bn_s, if_pos rfl, if_pos rfl]; exact X
  rw [if_neg k4, if_neg k4]
  by_cases k5 : k = 5
  · rw [if_pos k5, if_neg (by rw [k5]; decide)]; exact X
  rw [if_neg k5]
  by_cases k6 : k = 6
  · rw [if_pos k6, if_neg (by rw [k6]; decide)]; exact X
  rw [if_neg k6]
  by_cases k7 : k = 7
  · rw [if_pos k7, if_pos k7, h6, h3']
    rcases adr_cases ci with ⟨a, a1, ha, rfl, e1, e2⟩ | ⟨e1, e2, -⟩
    · have hRa := hR a ha
      have hiff := ow_iff (x := nI c) hRa (nneg hc)
      rw [e2, bn_s, if_neg (by decide)]
      rcases k_isOwner (σ := σ) (x := nI c) (a := a) a1 ha with ⟨o, e⟩ | ⟨o, e⟩
      · rcases m_isOf (x := nI c) hRa ha with ⟨p, e'⟩ | ⟨p, e'⟩
        · simp only [e, e', bn_k, i10, h3', gd_p (vin_n ha (by decide)), cln (show a < 2 ^ 31 by omega), hRa.1, vl_k, ← ht]
          by_cases c2 : τ 807 0 a = 2
          · rw [if_pos c2, if_pos c2]
            refine ⟨_, _, rfl, rfl, LOK.no hD hQ (hR.put (a := a) (fun b hb => ?_) ?_) (Sm.up (by decide) Sm.rf) (Sm.up (by decide) Sm.rf)⟩
            · simp [up_rd, hb]
            · unfold RC1
              refine ⟨by simp [up_rd]; exact hRa.1, by simp [up_rd], ?_, ?_, fun q => by omega⟩
              · rw [up_fn (by decide)]; exact hRa.2.2.1
              · rw [up_fn (by decide), up_fn (by decide), up_fn (by decide)]; exact hRa.2.2.2.1
          · rw [if_neg c2, if_neg c2]; exact X
        · exact absurd (hiff.mp o) p
      · rcases m_isOf (x := nI c) hRa ha with ⟨p, e'⟩ | ⟨p, e'⟩
        · exact absurd (hiff.mpr p) o
        · rw [e, e', bn_s, bn_s, if_pos rfl, if_pos rfl]; exact X
    · have eo : f_X6_isOwner (nI c) ci σ = some (0, σ) := by
        unfold f_X6_isOwner
        rw [e1, bn_s, if_pos rfl]
      rw [e2, eo, bn_s, bn_s, if_pos rfl, if_pos rfl]; exact X
  rw [if_neg k7, if_neg k7]
  exact X
